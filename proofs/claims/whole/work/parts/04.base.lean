def BW : List Cond := lw_tbl.filter goodWord
theorem bw_in {w : Cond} (h : w ∈ lw_tbl) (g : goodWord w = true) : w ∈ BW := List.mem_filter.mpr ⟨h, g⟩
theorem bw_tbl : ∀ w ∈ BW, w ∈ lw_tbl := fun _ h => (List.mem_filter.mp h).1
theorem bw_goodIn {ws : List Cond} (h : ∀ w ∈ ws, w ∈ BW) : GoodIn BW ws := goodIn_sub h (List.all_eq_true.mpr fun w hw => (List.mem_filter.mp (h w hw)).2)
theorem tw_1 : ∀ w ∈ tables_1_1, w ∈ lw_tbl := fun _ h => List.mem_append_right _ (List.mem_append_left _ h)
theorem tw_2 : ∀ w ∈ tables_1_2, w ∈ lw_tbl := fun _ h => List.mem_append_right _ (List.mem_append_right _ (List.mem_append_left _ h))
theorem tw_3 : ∀ w ∈ tables_1_3, w ∈ lw_tbl := fun _ h => List.mem_append_right _ (List.mem_append_right _ (List.mem_append_right _ (List.mem_append_left _ h)))
theorem tw_4 : ∀ w ∈ tables_1_4, w ∈ lw_tbl := fun _ h => List.mem_append_right _ (List.mem_append_right _ (List.mem_append_right _ (List.mem_append_right _ (List.mem_append_left _ h))))
theorem tw_5 : ∀ w ∈ tables_1_5, w ∈ lw_tbl := fun _ h => List.mem_append_right _ (List.mem_append_right _ (List.mem_append_right _ (List.mem_append_right _ (List.mem_append_right _ (List.mem_append_left _ h)))))
theorem tw_6 : ∀ w ∈ tables_1_6, w ∈ lw_tbl := fun _ h => List.mem_append_right _ (List.mem_append_right _ (List.mem_append_right _ (List.mem_append_right _ (List.mem_append_right _ (List.mem_append_right _ (h))))))
theorem pv_1 : ∀ q ∈ lw_privs_1, q ∈ lw_privs := fun _ h => List.mem_append_left _ h
theorem pw_1 : ∀ w ∈ k2_sels lw_privs_1, w ∈ k2_sels lw_privs := fun _ h => by
  obtain ⟨q, hq, e⟩ := List.mem_map.mp h
  exact List.mem_map.mpr ⟨q, pv_1 q hq, e⟩
theorem pv_2 : ∀ q ∈ lw_privs_2, q ∈ lw_privs := fun _ h => List.mem_append_right _ (List.mem_append_left _ h)
theorem pw_2 : ∀ w ∈ k2_sels lw_privs_2, w ∈ k2_sels lw_privs := fun _ h => by
  obtain ⟨q, hq, e⟩ := List.mem_map.mp h
  exact List.mem_map.mpr ⟨q, pv_2 q hq, e⟩
theorem pv_3 : ∀ q ∈ lw_privs_3, q ∈ lw_privs := fun _ h => List.mem_append_right _ (List.mem_append_right _ (List.mem_append_left _ h))
theorem pw_3 : ∀ w ∈ k2_sels lw_privs_3, w ∈ k2_sels lw_privs := fun _ h => by
  obtain ⟨q, hq, e⟩ := List.mem_map.mp h
  exact List.mem_map.mpr ⟨q, pv_3 q hq, e⟩
theorem pv_4 : ∀ q ∈ lw_privs_4, q ∈ lw_privs := fun _ h => List.mem_append_right _ (List.mem_append_right _ (List.mem_append_right _ (List.mem_append_left _ h)))
theorem pw_4 : ∀ w ∈ k2_sels lw_privs_4, w ∈ k2_sels lw_privs := fun _ h => by
  obtain ⟨q, hq, e⟩ := List.mem_map.mp h
  exact List.mem_map.mpr ⟨q, pv_4 q hq, e⟩
theorem pv_5 : ∀ q ∈ lw_privs_5, q ∈ lw_privs := fun _ h => List.mem_append_right _ (List.mem_append_right _ (List.mem_append_right _ (List.mem_append_right _ (List.mem_append_left _ h))))
theorem pw_5 : ∀ w ∈ k2_sels lw_privs_5, w ∈ k2_sels lw_privs := fun _ h => by
  obtain ⟨q, hq, e⟩ := List.mem_map.mp h
  exact List.mem_map.mpr ⟨q, pv_5 q hq, e⟩
theorem pv_6 : ∀ q ∈ lw_privs_6, q ∈ lw_privs := fun _ h => List.mem_append_right _ (List.mem_append_right _ (List.mem_append_right _ (List.mem_append_right _ (List.mem_append_right _ (h)))))
theorem pw_6 : ∀ w ∈ k2_sels lw_privs_6, w ∈ k2_sels lw_privs := fun _ h => by
  obtain ⟨q, hq, e⟩ := List.mem_map.mp h
  exact List.mem_map.mpr ⟨q, pv_6 q hq, e⟩
theorem fw_0 : ∀ w ∈ wsX00, w ∈ BW := fun w h => by
  refine bw_in ?_ (List.all_eq_true.mp (by decide +kernel : wsX00.all goodWord = true) w h)
  have e : wsX00 = ([tables_1_1[149]?, tables_1_1[151]?, tables_1_1[153]?, tables_1_1[155]?, tables_1_1[157]?] : List (Option Cond)).filterMap id := by decide +kernel
  rw [e] at h
  simp only [List.mem_filterMap, List.mem_cons, List.not_mem_nil, or_false, id] at h
  obtain ⟨o, ho, hw⟩ := h
  rcases ho with rfl | rfl | rfl | rfl | rfl
  · exact tw_1 _ (List.mem_of_getElem? hw)
  · exact tw_1 _ (List.mem_of_getElem? hw)
  · exact tw_1 _ (List.mem_of_getElem? hw)
  · exact tw_1 _ (List.mem_of_getElem? hw)
  · exact tw_1 _ (List.mem_of_getElem? hw)
theorem fw_1 : ∀ w ∈ wsX10, w ∈ BW := fun w h => by
  refine bw_in ?_ (List.all_eq_true.mp (by decide +kernel : wsX10.all goodWord = true) w h)
  have e : wsX10 = ([tables_1_1[82]?, tables_1_1[84]?, tables_1_1[86]?, tables_1_1[88]?, tables_1_1[90]?, tables_1_1[92]?, tables_1_1[94]?, tables_1_1[96]?, tables_1_1[98]?, tables_1_1[100]?, tables_1_1[102]?, tables_1_1[104]?, tables_1_1[106]?, tables_1_1[108]?, tables_1_1[110]?, tables_1_1[112]?] : List (Option Cond)).filterMap id := by decide +kernel
  rw [e] at h
  simp only [List.mem_filterMap, List.mem_cons, List.not_mem_nil, or_false, id] at h
  obtain ⟨o, ho, hw⟩ := h
  rcases ho with rfl | rfl | rfl | rfl | rfl | rfl | rfl | rfl | rfl | rfl | rfl | rfl | rfl | rfl | rfl | rfl
  · exact tw_1 _ (List.mem_of_getElem? hw)
  · exact tw_1 _ (List.mem_of_getElem? hw)
  · exact tw_1 _ (List.mem_of_getElem? hw)
  · exact tw_1 _ (List.mem_of_getElem? hw)
  · exact tw_1 _ (List.mem_of_getElem? hw)
  · exact tw_1 _ (List.mem_of_getElem? hw)
  · exact tw_1 _ (List.mem_of_getElem? hw)
  · exact tw_1 _ (List.mem_of_getElem? hw)
  · exact tw_1 _ (List.mem_of_getElem? hw)
  · exact tw_1 _ (List.mem_of_getElem? hw)
  · exact tw_1 _ (List.mem_of_getElem? hw)
  · exact tw_1 _ (List.mem_of_getElem? hw)
  · exact tw_1 _ (List.mem_of_getElem? hw)
  · exact tw_1 _ (List.mem_of_getElem? hw)
  · exact tw_1 _ (List.mem_of_getElem? hw)
  · exact tw_1 _ (List.mem_of_getElem? hw)
theorem fw_2 : ∀ w ∈ wsX20, w ∈ BW := fun w h => by
  refine bw_in ?_ (List.all_eq_true.mp (by decide +kernel : wsX20.all goodWord = true) w h)
  have e : wsX20 = ([tables_1_2[109]?, tables_1_2[111]?, tables_1_2[113]?, tables_1_2[115]?, tables_1_2[117]?, tables_1_2[119]?, tables_1_2[121]?, tables_1_2[123]?, tables_1_2[125]?] : List (Option Cond)).filterMap id := by decide +kernel
  rw [e] at h
  simp only [List.mem_filterMap, List.mem_cons, List.not_mem_nil, or_false, id] at h
  obtain ⟨o, ho, hw⟩ := h
  rcases ho with rfl | rfl | rfl | rfl | rfl | rfl | rfl | rfl | rfl
  · exact tw_2 _ (List.mem_of_getElem? hw)
  · exact tw_2 _ (List.mem_of_getElem? hw)
  · exact tw_2 _ (List.mem_of_getElem? hw)
  · exact tw_2 _ (List.mem_of_getElem? hw)
  · exact tw_2 _ (List.mem_of_getElem? hw)
  · exact tw_2 _ (List.mem_of_getElem? hw)
  · exact tw_2 _ (List.mem_of_getElem? hw)
  · exact tw_2 _ (List.mem_of_getElem? hw)
  · exact tw_2 _ (List.mem_of_getElem? hw)
theorem fw_3 : ∀ w ∈ wsX30, w ∈ BW := fun w h => by
  refine bw_in ?_ (List.all_eq_true.mp (by decide +kernel : wsX30.all goodWord = true) w h)
  have e : wsX30 = ([tables_1_1[43]?, tables_1_1[45]?, tables_1_1[47]?] : List (Option Cond)).filterMap id := by decide +kernel
  rw [e] at h
  simp only [List.mem_filterMap, List.mem_cons, List.not_mem_nil, or_false, id] at h
  obtain ⟨o, ho, hw⟩ := h
  rcases ho with rfl | rfl | rfl
  · exact tw_1 _ (List.mem_of_getElem? hw)
  · exact tw_1 _ (List.mem_of_getElem? hw)
  · exact tw_1 _ (List.mem_of_getElem? hw)
theorem fw_4 : ∀ w ∈ wsX40, w ∈ BW := fun w h => by
  refine bw_in ?_ (List.all_eq_true.mp (by decide +kernel : wsX40.all goodWord = true) w h)
  have e : wsX40 = ([tables_1_1[173]?, tables_1_1[175]?, tables_1_1[177]?] : List (Option Cond)).filterMap id := by decide +kernel
  rw [e] at h
  simp only [List.mem_filterMap, List.mem_cons, List.not_mem_nil, or_false, id] at h
  obtain ⟨o, ho, hw⟩ := h
  rcases ho with rfl | rfl | rfl
  · exact tw_1 _ (List.mem_of_getElem? hw)
  · exact tw_1 _ (List.mem_of_getElem? hw)
  · exact tw_1 _ (List.mem_of_getElem? hw)
theorem fw_5 : ∀ w ∈ wsX50, w ∈ BW := fun w h => by
  refine bw_in ?_ (List.all_eq_true.mp (by decide +kernel : wsX50.all goodWord = true) w h)
  have e : wsX50 = ([tables_1_1[126]?, tables_1_1[128]?, tables_1_1[130]?, tables_1_1[132]?] : List (Option Cond)).filterMap id := by decide +kernel
  rw [e] at h
  simp only [List.mem_filterMap, List.mem_cons, List.not_mem_nil, or_false, id] at h
  obtain ⟨o, ho, hw⟩ := h
  rcases ho with rfl | rfl | rfl | rfl
  · exact tw_1 _ (List.mem_of_getElem? hw)
  · exact tw_1 _ (List.mem_of_getElem? hw)
  · exact tw_1 _ (List.mem_of_getElem? hw)
  · exact tw_1 _ (List.mem_of_getElem? hw)
theorem fw_6 : ∀ w ∈ wsX60, w ∈ BW := fun w h => by
  refine bw_in ?_ (List.all_eq_true.mp (by decide +kernel : wsX60.all goodWord = true) w h)
  have e : wsX60 = ([tables_1_1[191]?, tables_1_1[193]?, tables_1_1[195]?, tables_1_1[197]?, tables_1_1[199]?, tables_1_1[201]?, tables_1_1[203]?, tables_1_1[205]?, tables_1_1[207]?, tables_1_1[209]?] : List (Option Cond)).filterMap id := by decide +kernel
  rw [e] at h
  simp only [List.mem_filterMap, List.mem_cons, List.not_mem_nil, or_false, id] at h
  obtain ⟨o, ho, hw⟩ := h
  rcases ho with rfl | rfl | rfl | rfl | rfl | rfl | rfl | rfl | rfl | rfl
  · exact tw_1 _ (List.mem_of_getElem? hw)
  · exact tw_1 _ (List.mem_of_getElem? hw)
  · exact tw_1 _ (List.mem_of_getElem? hw)
  · exact tw_1 _ (List.mem_of_getElem? hw)
  · exact tw_1 _ (List.mem_of_getElem? hw)
  · exact tw_1 _ (List.mem_of_getElem? hw)
  · exact tw_1 _ (List.mem_of_getElem? hw)
  · exact tw_1 _ (List.mem_of_getElem? hw)
  · exact tw_1 _ (List.mem_of_getElem? hw)
  · exact tw_1 _ (List.mem_of_getElem? hw)
theorem fw_7 : ∀ w ∈ wsX70, w ∈ BW := fun w h => by
  refine bw_in ?_ (List.all_eq_true.mp (by decide +kernel : wsX70.all goodWord = true) w h)
  have e : wsX70 = ([tables_1_4[104]?, tables_1_4[106]?, tables_1_4[108]?, tables_1_4[110]?, tables_1_4[112]?, tables_1_4[114]?, tables_1_4[116]?, tables_1_4[118]?, tables_1_4[120]?, tables_1_4[122]?, tables_1_4[124]?, tables_1_4[126]?, tables_1_4[128]?, tables_1_4[130]?, tables_1_4[132]?, tables_1_4[134]?, tables_1_4[136]?, tables_1_4[138]?, tables_1_4[140]?, tables_1_4[142]?, tables_1_4[144]?, tables_1_4[146]?, tables_1_4[148]?, tables_1_4[150]?, tables_1_4[152]?, tables_1_4[154]?, tables_1_4[156]?, tables_1_4[158]?, tables_1_4[160]?, tables_1_4[162]?, tables_1_4[164]?, tables_1_4[166]?, tables_1_4[168]?, tables_1_4[170]?, tables_1_4[172]?, tables_1_4[174]?, tables_1_4[176]?, tables_1_4[178]?, tables_1_4[180]?, tables_1_4[182]?, tables_1_4[184]?, tables_1_4[186]?, tables_1_4[188]?, tables_1_4[190]?, tables_1_4[192]?, tables_1_4[194]?, tables_1_4[196]?, tables_1_4[198]?, tables_1_4[200]?, tables_1_4[202]?, tables_1_4[204]?, tables_1_4[206]?, tables_1_4[208]?, tables_1_4[210]?, tables_1_4[212]?, tables_1_4[214]?, tables_1_4[216]?, tables_1_4[218]?, tables_1_4[220]?, tables_1_4[222]?, tables_1_4[224]?, tables_1_4[226]?, tables_1_4[228]?, tables_1_4[230]?, tables_1_4[232]?, tables_1_4[234]?, tables_1_4[236]?, tables_1_4[238]?, tables_1_5[0]?, tables_1_5[2]?, tables_1_5[4]?, tables_1_5[6]?, tables_1_5[8]?] : List (Option Cond)).filterMap id := by decide +kernel
  rw [e] at h
  simp only [List.mem_filterMap, List.mem_cons, List.not_mem_nil, or_false, id] at h
  obtain ⟨o, ho, hw⟩ := h
  rcases ho with rfl | rfl | rfl | rfl | rfl | rfl | rfl | rfl | rfl | rfl | rfl | rfl | rfl | rfl | rfl | rfl | rfl | rfl | rfl | rfl | rfl | rfl | rfl | rfl | rfl | rfl | rfl | rfl | rfl | rfl | rfl | rfl | rfl | rfl | rfl | rfl | rfl | rfl | rfl | rfl | rfl | rfl | rfl | rfl | rfl | rfl | rfl | rfl | rfl | rfl | rfl | rfl | rfl | rfl | rfl | rfl | rfl | rfl | rfl | rfl | rfl | rfl | rfl | rfl | rfl | rfl | rfl | rfl | rfl | rfl | rfl | rfl | rfl
  · exact tw_4 _ (List.mem_of_getElem? hw)
  · exact tw_4 _ (List.mem_of_getElem? hw)
  · exact tw_4 _ (List.mem_of_getElem? hw)
  · exact tw_4 _ (List.mem_of_getElem? hw)
  · exact tw_4 _ (List.mem_of_getElem? hw)
  · exact tw_4 _ (List.mem_of_getElem? hw)
  · exact tw_4 _ (List.mem_of_getElem? hw)
  · exact tw_4 _ (List.mem_of_getElem? hw)
  · exact tw_4 _ (List.mem_of_getElem? hw)
  · exact tw_4 _ (List.mem_of_getElem? hw)
  · exact tw_4 _ (List.mem_of_getElem? hw)
  · exact tw_4 _ (List.mem_of_getElem? hw)
  · exact tw_4 _ (List.mem_of_getElem? hw)
  · exact tw_4 _ (List.mem_of_getElem? hw)
  · exact tw_4 _ (List.mem_of_getElem? hw)
  · exact tw_4 _ (List.mem_of_getElem? hw)
  · exact tw_4 _ (List.mem_of_getElem? hw)
  · exact tw_4 _ (List.mem_of_getElem? hw)
  · exact tw_4 _ (List.mem_of_getElem? hw)
  · exact tw_4 _ (List.mem_of_getElem? hw)
  · exact tw_4 _ (List.mem_of_getElem? hw)
  · exact tw_4 _ (List.mem_of_getElem? hw)
  · exact tw_4 _ (List.mem_of_getElem? hw)
  · exact tw_4 _ (List.mem_of_getElem? hw)
  · exact tw_4 _ (List.mem_of_getElem? hw)
  · exact tw_4 _ (List.mem_of_getElem? hw)
  · exact tw_4 _ (List.mem_of_getElem? hw)
  · exact tw_4 _ (List.mem_of_getElem? hw)
  · exact tw_4 _ (List.mem_of_getElem? hw)
  · exact tw_4 _ (List.mem_of_getElem? hw)
  · exact tw_4 _ (List.mem_of_getElem? hw)
  · exact tw_4 _ (List.mem_of_getElem? hw)
  · exact tw_4 _ (List.mem_of_getElem? hw)
  · exact tw_4 _ (List.mem_of_getElem? hw)
  · exact tw_4 _ (List.mem_of_getElem? hw)
  · exact tw_4 _ (List.mem_of_getElem? hw)
  · exact tw_4 _ (List.mem_of_getElem? hw)
  · exact tw_4 _ (List.mem_of_getElem? hw)
  · exact tw_4 _ (List.mem_of_getElem? hw)
  · exact tw_4 _ (List.mem_of_getElem? hw)
  · exact tw_4 _ (List.mem_of_getElem? hw)
  · exact tw_4 _ (List.mem_of_getElem? hw)
  · exact tw_4 _ (List.mem_of_getElem? hw)
  · exact tw_4 _ (List.mem_of_getElem? hw)
  · exact tw_4 _ (List.mem_of_getElem? hw)
  · exact tw_4 _ (List.mem_of_getElem? hw)
  · exact tw_4 _ (List.mem_of_getElem? hw)
  · exact tw_4 _ (List.mem_of_getElem? hw)
  · exact tw_4 _ (List.mem_of_getElem? hw)
  · exact tw_4 _ (List.mem_of_getElem? hw)
  · exact tw_4 _ (List.mem_of_getElem? hw)
  · exact tw_4 _ (List.mem_of_getElem? hw)
  · exact tw_4 _ (List.mem_of_getElem? hw)
  · exact tw_4 _ (List.mem_of_getElem? hw)
  · exact tw_4 _ (List.mem_of_getElem? hw)
  · exact tw_4 _ (List.mem_of_getElem? hw)
  · exact tw_4 _ (List.mem_of_getElem? hw)
  · exact tw_4 _ (List.mem_of_getElem? hw)
  · exact tw_4 _ (List.mem_of_getElem? hw)
  · exact tw_4 _ (List.mem_of_getElem? hw)
  · exact tw_4 _ (List.mem_of_getElem? hw)
  · exact tw_4 _ (List.mem_of_getElem? hw)
  · exact tw_4 _ (List.mem_of_getElem? hw)
  · exact tw_4 _ (List.mem_of_getElem? hw)
  · exact tw_4 _ (List.mem_of_getElem? hw)
  · exact tw_4 _ (List.mem_of_getElem? hw)
  · exact tw_4 _ (List.mem_of_getElem? hw)
  · exact tw_4 _ (List.mem_of_getElem? hw)
  · exact tw_5 _ (List.mem_of_getElem? hw)
  · exact tw_5 _ (List.mem_of_getElem? hw)
  · exact tw_5 _ (List.mem_of_getElem? hw)
  · exact tw_5 _ (List.mem_of_getElem? hw)
  · exact tw_5 _ (List.mem_of_getElem? hw)
/-! my own base: pure words, contracts of one form, calls by segments -/
/-- the arrays' classes -/
def TY (cA : Nat → ClassId) : List (ClassId × FieldType) := [(cA 0, .int), (cA 1, .byte), (cA 2, .long), (cA 3, .boolean), (cA 4, .object "CellarPlot$Tape")]
def gd {α : Type} (i : Int32) (n : Nat) (o : Option α) : Option α := if i < 0 ∨ n ≤ i.toNatClampNeg then none else o
theorem gd_of {α : Type} {i : Int32} {n : Nat} {o : Option α} {r : α} (h : gd i n o = some r) : vp_in i n ∧ o = some r := by
  unfold gd at h
  by_cases c : i < 0 ∨ n ≤ i.toNatClampNeg
  · rw [if_pos c] at h; cases h
  · rw [if_neg c] at h; exact ⟨c, h⟩
theorem gd_in {α : Type} {i : Int32} {n : Nat} {o : Option α} (h : vp_in i n) : gd i n o = o := if_neg h
def gz {α : Type} (y : Int32) (o : Option α) : Option α := if y = 0 then none else o
theorem gz_of {α : Type} {y : Int32} {o : Option α} {r : α} (h : gz y o = some r) : ¬ y = 0 ∧ o = some r := by
  unfold gz at h
  by_cases c : y = 0
  · rw [if_pos c] at h; cases h
  · rw [if_neg c] at h; exact ⟨c, h⟩
theorem gz_ne {α : Type} {y : Int32} {o : Option α} (h : ¬ y = 0) : gz y o = o := if_neg h
theorem it_of {α : Type} {c : Prop} {D : Decidable c} {a b : Option α} {r : α} (hc : c) (h : (if c then a else b) = some r) : a = some r := by rw [if_pos hc] at h; exact h
theorem ie_of {α : Type} {c : Prop} {D : Decidable c} {a b : Option α} {r : α} (hc : ¬ c) (h : (if c then a else b) = some r) : b = some r := by rw [if_neg hc] at h; exact h
def gb {α : Type} (x : Int32) (o : Option α) : Option α := if x = 0 ∨ x = 1 then o else none
theorem gb_of {α : Type} {x : Int32} {o : Option α} {r : α} (h : gb x o = some r) : narrow .boolean (.int x) = .int x ∧ o = some r := by
  unfold gb at h
  by_cases c : x = 0 ∨ x = 1
  · rw [if_pos c] at h
    exact ⟨by rcases c with rfl | rfl <;> rfl, h⟩
  · rw [if_neg c] at h; cases h
def gcp {α : Type} (sp dp n : Int32) (n0 n1 : Nat) (o : Option α) : Option α := if sp < 0 ∨ dp < 0 ∨ n < 0 ∨ n0 < sp.toNatClampNeg + n.toNatClampNeg ∨ n1 < dp.toNatClampNeg + n.toNatClampNeg then none else o
theorem gcp_of {α : Type} {sp dp n : Int32} {n0 n1 : Nat} {o : Option α} {r : α} (h : gcp sp dp n n0 n1 o = some r) : (¬ sp < 0 ∧ ¬ dp < 0 ∧ ¬ n < 0 ∧ sp.toNatClampNeg + n.toNatClampNeg ≤ n0 ∧ dp.toNatClampNeg + n.toNatClampNeg ≤ n1) ∧ o = some r := by
  unfold gcp at h
  by_cases c : sp < 0 ∨ dp < 0 ∨ n < 0 ∨ n0 < sp.toNatClampNeg + n.toNatClampNeg ∨ n1 < dp.toNatClampNeg + n.toNatClampNeg
  · rw [if_pos c] at h; cases h
  · rw [if_neg c] at h
    refine ⟨⟨fun q => c (Or.inl q), fun q => c (Or.inr (Or.inl q)), fun q => c (Or.inr (Or.inr (Or.inl q))), ?_, ?_⟩, h⟩
    · exact Nat.le_of_not_lt fun q => c (Or.inr (Or.inr (Or.inr (Or.inl q))))
    · exact Nat.le_of_not_lt fun q => c (Or.inr (Or.inr (Or.inr (Or.inr q))))
def nm {A R : Type} (v : A) (k : A → Option R) : Option R := k v
theorem nm_of {A R : Type} {v : A} {k : A → Option R} {r : R} (h : nm v k = some r) : ∃ z, z = v ∧ k z = some r := ⟨v, rfl, h⟩
theorem nm_i {A R : Type} {v z : A} {k : A → Option R} {r : R} (e : z = v) (h : nm v k = some r) : k z = some r := by subst e; exact h
def b1 {A R : Type} (o : Option A) (k : A → Option R) : Option R := match o with | none => none | some a => k a
def b2 {A B R : Type} (o : Option (A × B)) (k : A → B → Option R) : Option R := match o with | none => none | some (a, b) => k a b
def b3 {A B C R : Type} (o : Option (A × B × C)) (k : A → B → C → Option R) : Option R := match o with | none => none | some (a, b, c) => k a b c
def b4 {A B C D R : Type} (o : Option (A × B × C × D)) (k : A → B → C → D → Option R) : Option R := match o with | none => none | some (a, b, c, d) => k a b c d
def b5 {A B C D E R : Type} (o : Option (A × B × C × D × E)) (k : A → B → C → D → E → Option R) : Option R := match o with | none => none | some (a, b, c, d, e) => k a b c d e
theorem b1_of {A R : Type} {o : Option A} {k : A → Option R} {r : R} (h : b1 o k = some r) : ∃ a, o = some a ∧ k a = some r := by
  cases o with
  | none => cases h
  | some q => exact ⟨q, rfl, h⟩
theorem b2_of {A B R : Type} {o : Option (A × B)} {k : A → B → Option R} {r : R} (h : b2 o k = some r) : ∃ a b, o = some (a, b) ∧ k a b = some r := by
  cases o with
  | none => cases h
  | some q => exact ⟨q.1, q.2, rfl, h⟩
theorem b3_of {A B C R : Type} {o : Option (A × B × C)} {k : A → B → C → Option R} {r : R} (h : b3 o k = some r) : ∃ a b c, o = some (a, b, c) ∧ k a b c = some r := by
  cases o with
  | none => cases h
  | some q => exact ⟨q.1, q.2.1, q.2.2, rfl, h⟩
theorem b4_of {A B C D R : Type} {o : Option (A × B × C × D)} {k : A → B → C → D → Option R} {r : R} (h : b4 o k = some r) : ∃ a b c d, o = some (a, b, c, d) ∧ k a b c d = some r := by
  cases o with
  | none => cases h
  | some q => exact ⟨q.1, q.2.1, q.2.2.1, q.2.2.2, rfl, h⟩
theorem b5_of {A B C D E R : Type} {o : Option (A × B × C × D × E)} {k : A → B → C → D → E → Option R} {r : R} (h : b5 o k = some r) : ∃ a b c d e, o = some (a, b, c, d, e) ∧ k a b c d e = some r := by
  cases o with
  | none => cases h
  | some q => exact ⟨q.1, q.2.1, q.2.2.1, q.2.2.2.1, q.2.2.2.2, rfl, h⟩
theorem b1_s {A R : Type} {a : A} {k : A → Option R} : b1 (some a) k = k a := rfl
theorem b2_s {A B R : Type} {a : A} {b : B} {k : A → B → Option R} : b2 (some (a, b)) k = k a b := rfl
theorem b3_s {A B C R : Type} {a : A} {b : B} {c : C} {k : A → B → C → Option R} : b3 (some (a, b, c)) k = k a b c := rfl
theorem b4_s {A B C D R : Type} {a : A} {b : B} {c : C} {d : D} {k : A → B → C → D → Option R} : b4 (some (a, b, c, d)) k = k a b c d := rfl
theorem b5_s {A B C D E R : Type} {a : A} {b : B} {c : C} {d : D} {e : E} {k : A → B → C → D → E → Option R} : b5 (some (a, b, c, d, e)) k = k a b c d e := rfl
def b6 {A B C D E G R : Type} (o : Option (A × B × C × D × E × G)) (k : A → B → C → D → E → G → Option R) : Option R := match o with | none => none | some (a, b, c, d, e, f) => k a b c d e f
theorem b6_of {A B C D E G R : Type} {o : Option (A × B × C × D × E × G)} {k : A → B → C → D → E → G → Option R} {r : R} (h : b6 o k = some r) : ∃ a b c d e f, o = some (a, b, c, d, e, f) ∧ k a b c d e f = some r := by
  cases o with
  | none => cases h
  | some q => exact ⟨q.1, q.2.1, q.2.2.1, q.2.2.2.1, q.2.2.2.2.1, q.2.2.2.2.2, rfl, h⟩
theorem b6_s {A B C D E G R : Type} {a : A} {b : B} {c : C} {d : D} {e : E} {f : G} {k : A → B → C → D → E → G → Option R} : b6 (some (a, b, c, d, e, f)) k = k a b c d e f := rfl
def b7 {A B C D E G H R : Type} (o : Option (A × B × C × D × E × G × H)) (k : A → B → C → D → E → G → H → Option R) : Option R := match o with | none => none | some (a, b, c, d, e, f, g) => k a b c d e f g
theorem b7_of {A B C D E G H R : Type} {o : Option (A × B × C × D × E × G × H)} {k : A → B → C → D → E → G → H → Option R} {r : R} (h : b7 o k = some r) : ∃ a b c d e f g, o = some (a, b, c, d, e, f, g) ∧ k a b c d e f g = some r := by
  cases o with
  | none => cases h
  | some q => exact ⟨q.1, q.2.1, q.2.2.1, q.2.2.2.1, q.2.2.2.2.1, q.2.2.2.2.2.1, q.2.2.2.2.2.2, rfl, h⟩
theorem b7_s {A B C D E G H R : Type} {a : A} {b : B} {c : C} {d : D} {e : E} {f : G} {g : H} {k : A → B → C → D → E → G → H → Option R} : b7 (some (a, b, c, d, e, f, g)) k = k a b c d e f g := rfl
def b8 {A B C D E G H I R : Type} (o : Option (A × B × C × D × E × G × H × I)) (k : A → B → C → D → E → G → H → I → Option R) : Option R := match o with | none => none | some (a, b, c, d, e, f, g, h) => k a b c d e f g h
theorem b8_of {A B C D E G H I R : Type} {o : Option (A × B × C × D × E × G × H × I)} {k : A → B → C → D → E → G → H → I → Option R} {r : R} (h : b8 o k = some r) : ∃ a b c d e f g h, o = some (a, b, c, d, e, f, g, h) ∧ k a b c d e f g h = some r := by
  cases o with
  | none => cases h
  | some q => exact ⟨q.1, q.2.1, q.2.2.1, q.2.2.2.1, q.2.2.2.2.1, q.2.2.2.2.2.1, q.2.2.2.2.2.2.1, q.2.2.2.2.2.2.2, rfl, h⟩
theorem b8_s {A B C D E G H I R : Type} {a : A} {b : B} {c : C} {d : D} {e : E} {f : G} {g : H} {h : I} {k : A → B → C → D → E → G → H → I → Option R} : b8 (some (a, b, c, d, e, f, g, h)) k = k a b c d e f g h := rfl
/-! worlds, up to order -/
theorem va_P_iff {D : va_G} {cl : List vw_C} {ws : va_W} {H : Heap} : va_P D cl ws H ↔ ∀ q ∈ ws, va_at D cl q H := by
  constructor
  · intro h q hq
    obtain ⟨k, hk⟩ := List.getElem?_of_mem hq
    exact h k q hk
  · intro h k q hk
    exact h q (List.mem_of_getElem? hk)
theorem va_D_iff {A : Nat → Prop} {ws : va_W} : va_D A ws ↔ (ws.map Prod.fst).Nodup ∧ ∀ q ∈ ws, A q.1 := by
  constructor
  · intro h
    refine ⟨?_, fun q hq => ?_⟩
    · rw [List.Nodup, List.pairwise_iff_getElem]
      intro i j hi hj hij e
      rw [List.length_map] at hi hj
      simp only [List.getElem_map] at e
      have := h.1 i j ws[i] ws[j] (List.getElem?_eq_getElem hi) (List.getElem?_eq_getElem hj) e
      omega
    · obtain ⟨k, hk⟩ := List.getElem?_of_mem hq
      exact h.2 k q hk
  · intro ⟨h1, h2⟩
    refine ⟨fun i j p q hi hj e => ?_, fun k q hk => h2 q (List.mem_of_getElem? hk)⟩
    rw [List.Nodup, List.pairwise_iff_getElem] at h1
    obtain ⟨hi', ei⟩ := List.getElem?_eq_some_iff.mp hi
    obtain ⟨hj', ej⟩ := List.getElem?_eq_some_iff.mp hj
    rcases Nat.lt_trichotomy i j with c | c | c
    · exact absurd (by rw [List.getElem_map, List.getElem_map, ei, ej, e]) (h1 i j (by rw [List.length_map]; exact hi') (by rw [List.length_map]; exact hj') c)
    · exact c
    · exact absurd (by rw [List.getElem_map, List.getElem_map, ei, ej, e]) (h1 j i (by rw [List.length_map]; exact hj') (by rw [List.length_map]; exact hi') c)
theorem va_P.perm {D : va_G} {cl : List vw_C} {ws ws' : va_W} {H : Heap} (h : va_P D cl ws H) (hp : ws.Perm ws') : va_P D cl ws' H := va_P_iff.mpr fun q hq => va_P_iff.mp h q (hp.mem_iff.mpr hq)
theorem va_D.perm {A : Nat → Prop} {ws ws' : va_W} (h : va_D A ws) (hp : ws.Perm ws') : va_D A ws' := va_D_iff.mpr ⟨(hp.map Prod.fst).nodup_iff.mp (va_D_iff.mp h).1, fun q hq => (va_D_iff.mp h).2 q (hp.mem_iff.mpr hq)⟩
theorem va_D.left {A : Nat → Prop} {w1 w2 : va_W} (h : va_D A (w1 ++ w2)) : va_D A w1 := by
  have h := va_D_iff.mp h
  rw [List.map_append] at h
  exact va_D_iff.mpr ⟨(List.nodup_append.mp h.1).1, fun q hq => h.2 q (List.mem_append_left _ hq)⟩
theorem va_P.left {D : va_G} {cl : List vw_C} {w1 w2 : va_W} {H : Heap} (h : va_P D cl (w1 ++ w2) H) : va_P D cl w1 H := va_P_iff.mpr fun q hq => va_P_iff.mp h q (List.mem_append_left _ hq)
/-- behind a call over the first part of a world -/
theorem w_join {A0 : Nat → Prop} {D : va_G} {cl : List vw_C} {wc wr w1 : va_W} {H H1 : Heap} (hP : va_P D cl (wc ++ wr) H) (hD : va_D A0 (wc ++ wr)) (hk : ∀ q : Nat, q < H.size → ¬ va_A wc H.size q → H1[q]? = H[q]?) (hF : ∀ q, va_A wc H.size q → A0 q) (hP1 : va_P D cl w1 H1) (hD1 : va_D (va_A wc H.size) w1) : va_P D cl (w1 ++ wr) H1 ∧ va_D A0 (w1 ++ wr) := by
  have apart : ∀ q ∈ wr, q.1 < H.size ∧ ¬ va_A wc H.size q.1 := by
    intro q hq
    have hl := (va_P_iff.mp hP q (List.mem_append_right _ hq)).lt
    refine ⟨hl, fun h => ?_⟩
    rcases h with ⟨k, e, h⟩ | h
    · have hd := (va_D_iff.mp hD).1
      rw [List.map_append] at hd
      exact (List.nodup_append.mp hd).2.2 q.1 (List.mem_map.mpr ⟨_, List.mem_of_getElem? h, rfl⟩) q.1 (List.mem_map.mpr ⟨q, hq, rfl⟩) rfl
    · omega
  have d1 := va_D_iff.mp hD1
  have d0 := va_D_iff.mp hD
  constructor
  · refine va_P_iff.mpr fun q hq => ?_
    rcases List.mem_append.mp hq with h | h
    · exact va_P_iff.mp hP1 q h
    · exact (va_P_iff.mp hP q (List.mem_append_right _ h)).kept (hk q.1 (apart q h).1 (apart q h).2)
  · refine va_D_iff.mpr ⟨?_, fun q hq => ?_⟩
    · rw [List.map_append, List.nodup_append]
      have hd := d0.1
      rw [List.map_append] at hd
      refine ⟨d1.1, (List.nodup_append.mp hd).2.1, fun a ha b hb e => ?_⟩
      obtain ⟨x, hx, ex⟩ := List.mem_map.mp ha
      obtain ⟨z, hz, ez⟩ := List.mem_map.mp hb
      exact (apart z hz).2 (by rw [ez, ← e, ← ex]; exact d1.2 x hx)
    · rcases List.mem_append.mp hq with h | h
      · exact hF q.1 (d1.2 q h)
      · exact d0.2 q (List.mem_append_right _ h)
theorem w_free {A0 : Nat → Prop} {ws wc wr : va_W} {H0 H : Heap} {locs : List Loc} (hD : va_D A0 ws) (hp : ws.Perm (wc ++ wr)) (hS : va_S A0 H0 H locs) (hA : ∀ q, H0.size ≤ q → A0 q) : ∀ q, va_A wc H.size q → A0 q := by
  intro q h
  rcases h with ⟨k, e, h⟩ | h
  · exact (va_D_iff.mp hD).2 (q, e) (hp.mem_iff.mpr (List.mem_append_left _ (List.mem_of_getElem? h)))
  · exact hA q (Nat.le_trans hS.1 h)
theorem perm_nil {ws : va_W} : ws.Perm (ws ++ []) := by rw [List.append_nil]
theorem va_P.nil {D : va_G} {cl : List vw_C} {ws : va_W} {H : Heap} (h : va_P D cl (ws ++ []) H) : va_P D cl ws H := by rw [List.append_nil] at h; exact h
theorem va_D.nil {A : Nat → Prop} {ws : va_W} (h : va_D A (ws ++ [])) : va_D A ws := by rw [List.append_nil] at h; exact h
def segpick (segs : List va_W) (is : List Nat) : va_W := (is.map (fun i => segs.getD i [])).flatten
theorem segpick_range (segs : List va_W) : segpick segs (List.range segs.length) = segs.flatten := by
  unfold segpick
  congr 1
  apply List.ext_getElem
  · simp
  · intro i h1 h2
    simp [List.getD_eq_getElem?_getD, List.getElem?_eq_getElem h2]
/-- a world of segments, some of them first -/
theorem seg_out (segs : List va_W) (ia ir : List Nat) (n : Nat) (hn : segs.length = n) (h : (ia ++ ir).Perm (List.range n)) : segs.flatten.Perm (segpick segs ia ++ segpick segs ir) := by
  subst hn
  have e : segpick segs ia ++ segpick segs ir = segpick segs (ia ++ ir) := by
    unfold segpick
    rw [List.map_append, List.flatten_append]
  rw [e, ← segpick_range segs]
  exact ((h.map (fun i => segs.getD i [])).flatten).symm
/-! contracts of one form -/
def MW (y : MethodName) (b : ByteArray) (n : Nat) (ret : Option FieldType) : List Cond := .code y b n ret :: BW
def RMx (F L mc ms : Nat) : Room := { frames := F, cells := mc, slots := ms, locals := L }
def Pre0 (D : va_G) (cA : Nat → ClassId) (wc : va_W) (sz : Nat) : State → Prop := fun U => U.heap.size = sz ∧ va_P D vwCl wc U.heap ∧ va_K D vwCl (TY cA) U ∧ va_D (fun _ => True) wc
def End0 (D : va_G) (A : Nat → Prop) : va_W → State → Prop := fun w t => va_P D vwCl w t.heap ∧ va_D A w
def CI (l : Launch) (D : va_G) (cA : Nat → ClassId) (y : MethodName) (b : ByteArray) (n : Nat) (ret : Option FieldType) (F L : Nat) (as : List Value) (wc : va_W) (mc ms : Nat) (post : Int32 → va_W → Prop) : Prop := ∀ sz, Met l y (MW y b n ret) (RMx F L mc ms) (va_Pc as (Pre0 D cA wc sz)) (va_Qi post (End0 D (va_A wc sz)) (va_A wc sz)) mc ms (va_A wc sz)
def CL (l : Launch) (D : va_G) (cA : Nat → ClassId) (y : MethodName) (b : ByteArray) (n : Nat) (ret : Option FieldType) (F L : Nat) (as : List Value) (wc : va_W) (mc ms : Nat) (post : Int64 → va_W → Prop) : Prop := ∀ sz, Met l y (MW y b n ret) (RMx F L mc ms) (va_Pc as (Pre0 D cA wc sz)) (va_Ql post (End0 D (va_A wc sz)) (va_A wc sz)) mc ms (va_A wc sz)
def CV (l : Launch) (D : va_G) (cA : Nat → ClassId) (y : MethodName) (b : ByteArray) (n : Nat) (ret : Option FieldType) (F L : Nat) (as : List Value) (wc : va_W) (mc ms : Nat) (post : va_W → Prop) : Prop := ∀ sz, Met l y (MW y b n ret) (RMx F L mc ms) (va_Pc as (Pre0 D cA wc sz)) (va_Qv post (End0 D (va_A wc sz)) (va_A wc sz)) mc ms (va_A wc sz)
def CR (l : Launch) (D : va_G) (cA : Nat → ClassId) (y : MethodName) (b : ByteArray) (n : Nat) (ret : Option FieldType) (F L : Nat) (as : List Value) (wc : va_W) (mc ms : Nat) (post : Nat → va_W → Prop) : Prop := ∀ sz, Met l y (MW y b n ret) (RMx F L mc ms) (va_Pc as (Pre0 D cA wc sz)) (va_Qr (S := va_W) (fun _ => True) (fun w a t => post a w ∧ End0 D (va_A wc sz) w t) (va_A wc sz)) mc ms (va_A wc sz)
def Ctx (p : Program) (s : State) (m : MethodId) (args : Array Value) (meth : Method) (c : Code) (y : MethodName) (b : ByteArray) (n : Nat) (ret : Option FieldType) (D : va_G) (cA : Nat → ClassId) (A : Nat → Prop) : Prop :=
  p.tables.exec = Jvm.exec ∧ c.code = b ∧ meth.sig.returnType = ret ∧ c.maxLocals = n ∧ s.vm.findClass y.cls = some m.cls ∧ (∀ w ∈ BW, w.before args s = true) ∧ meth.locks = false ∧ va_K D vwCl (TY cA) s ∧ (∀ q : Nat, s.heap.size ≤ q → A q)
abbrev QI (below : List Frame) (D : va_G) (A : Nat → Prop) (post : Int32 → va_W → Prop) (args : Array Value) (s : State) (mc ms : Nat) : State → Prop := MQ below (va_Qi post (End0 D A) A) args s mc ms A
abbrev QL (below : List Frame) (D : va_G) (A : Nat → Prop) (post : Int64 → va_W → Prop) (args : Array Value) (s : State) (mc ms : Nat) : State → Prop := MQ below (va_Ql post (End0 D A) A) args s mc ms A
abbrev QV (below : List Frame) (D : va_G) (A : Nat → Prop) (post : va_W → Prop) (args : Array Value) (s : State) (mc ms : Nat) : State → Prop := MQ below (va_Qv post (End0 D A) A) args s mc ms A
abbrev QR (below : List Frame) (D : va_G) (A : Nat → Prop) (post : Nat → va_W → Prop) (args : Array Value) (s : State) (mc ms : Nat) : State → Prop := MQ below (va_Qr (S := va_W) (fun _ => True) (fun w a t => post a w ∧ End0 D A w t) A) args s mc ms A
section START
variable {l : Launch} {D : va_G} {cA : Nat → ClassId} {y : MethodName} {b : ByteArray} {n : Nat} {ret : Option FieldType} {F L : Nat} {as : List Value} {wc : va_W} {mc ms : Nat}
theorem met_start {Qc : Array Value → State → Outcome → State → Prop} {sz : Nat} (hy : plainName y.cls = true) (hlen : Nat.ble (lg_sl as).length n = true)
    (body : ∀ (p : Program) (e : Env) (s : State) (m : MethodId) (args : Array Value) (below : List Frame) (meth : Method) (c : Code) (ls : Array Slot), s.heap.size = sz → args = as.toArray → Ctx p s m args meth c y b n ret D cA (va_A wc sz) → meth.name = y.name → va_P D vwCl wc s.heap → va_D (va_A wc sz) wc → va_S (va_A wc sz) s.heap s.heap [] → lv_has ls n (lv_args 0 as) →
      W p l e (RMx F L mc ms) s m args below meth c s.heap [] 0 0 (MQ below Qc args s mc ms (va_A wc sz)) (F0 m 0 ls [])) :
    Met l y (MW y b n ret) (RMx F L mc ms) (va_Pc as (Pre0 D cA wc sz)) Qc mc ms (va_A wc sz) := by
  refine Met.ofW (cc := b) (maxL := n) (ret := ret) hy rfl ?_
  intro p e s m args below meth c s₁ B hml hv
  obtain ⟨rfl, hsz, hP, hK, hD0⟩ := hv
  have hts := atoms_spec (ws := MW y b n ret) B.pre
  have hown : s.vm.findClass y.cls = some m.cls := findClass_of_methodNamed B.named
  have hD := hD0.self (sz := sz)
  have hl := lv_entry as (n := n) (Nat.le_of_ble_eq_true hlen)
  rw [lg_entry_eq]
  exact body p e s m as.toArray below meth c _ hsz rfl ⟨B.exec, B.bytes, B.returns, hml, hown, fun w hw => hts w (List.mem_cons_of_mem _ hw), B.notSynchronized, hK, fun q hq => Or.inr (by rw [← hsz]; exact hq)⟩ (name_of_methodNamed B.named B.method).1 hP hD va_S.rf hl
end START
section RUN
variable {p : Program} {l : Launch} {e : Env} {R : Room} {s : State} {m : MethodId} {args : Array Value} {below : List Frame} {meth : Method} {c : Code} {D : va_G} {cA : Nat → ClassId} {A : Nat → Prop} {y0 : MethodName} {b0 : ByteArray} {n0 : Nat} {r0 : Option FieldType} {H : Heap} {locs : List Loc} {cells slots mc ms : Nat} {pc : Nat} {ls : Array Slot}
theorem ret_i {post : Int32 → va_W → Prop} {v : Int32} {w : va_W} (C0 : Ctx p s m args meth c y0 b0 n0 (some .int) D cA A) (hP : va_P D vwCl w H) (hD : va_D A w) (hS : va_S A s.heap H locs) (hpost : post v w) (hdg : decode b0 pc = .ok (.ireturn, 1)) : W p l e R s m args below meth c H locs cells slots (QI below D A post args s cells slots) (F0 m pc ls [.int v]) :=
  W.iret C0.1 C0.2.1 C0.2.2.1 (fun t ht _ => ⟨⟨v, w, rfl, hpost, ht ▸ hP, hD⟩, hS.F ht⟩) hS.2.2 hdg C0.2.2.2.2.2.2.1
theorem ret_z {post : Int32 → va_W → Prop} {v : Int32} {w : va_W} (C0 : Ctx p s m args meth c y0 b0 n0 (some .boolean) D cA A) (hP : va_P D vwCl w H) (hD : va_D A w) (hS : va_S A s.heap H locs) (hpost : post v w) (hn : narrow .boolean (.int v) = .int v) (hdg : decode b0 pc = .ok (.ireturn, 1)) : W p l e R s m args below meth c H locs cells slots (QI below D A (fun r w => post r w ∧ narrow .boolean (.int r) = .int r) args s cells slots) (F0 m pc ls [.int v]) :=
  W.zret C0.1 C0.2.1 C0.2.2.1 hn (fun t ht _ => ⟨⟨v, w, rfl, ⟨hpost, hn⟩, ht ▸ hP, hD⟩, hS.F ht⟩) hS.2.2 hdg C0.2.2.2.2.2.2.1
theorem ret_l {post : Int64 → va_W → Prop} {v : Int64} {w : va_W} (C0 : Ctx p s m args meth c y0 b0 n0 (some .long) D cA A) (hP : va_P D vwCl w H) (hD : va_D A w) (hS : va_S A s.heap H locs) (hpost : post v w) (hdg : decode b0 pc = .ok (.lreturn, 1)) : W p l e R s m args below meth c H locs cells slots (QL below D A post args s cells slots) (F0 m pc ls [.long v]) :=
  W.lret C0.1 C0.2.1 C0.2.2.1 (fun t ht _ => ⟨⟨v, w, rfl, hpost, ht ▸ hP, hD⟩, hS.F ht⟩) hS.2.2 hdg C0.2.2.2.2.2.2.1
theorem ret_v {post : va_W → Prop} {w : va_W} (C0 : Ctx p s m args meth c y0 b0 n0 none D cA A) (hP : va_P D vwCl w H) (hD : va_D A w) (hS : va_S A s.heap H locs) (hpost : post w) (hdg : decode b0 pc = .ok (.return_, 1)) : W p l e R s m args below meth c H locs cells slots (QV below D A post args s cells slots) (F0 m pc ls []) :=
  W.vret C0.1 C0.2.1 C0.2.2.1 (fun t ht _ => ⟨⟨w, rfl, hpost, ht ▸ hP, hD⟩, hS.F ht⟩) hS.2.2 hdg C0.2.2.2.2.2.2.1
theorem ret_r {post : Nat → va_W → Prop} {v : Nat} {w : va_W} {rt : FieldType} (C0 : Ctx p s m args meth c y0 b0 n0 (some rt) D cA A) (hrt : (∃ n, rt = .object n) ∨ ∃ t, rt = .array t) (hP : va_P D vwCl w H) (hD : va_D A w) (hS : va_S A s.heap H locs) (hpost : post v w) (hdg : decode b0 pc = .ok (.areturn, 1)) : W p l e R s m args below meth c H locs cells slots (QR below D A post args s cells slots) (F0 m pc ls [.ref v]) :=
  W.aret C0.1 C0.2.1 C0.2.2.1 hrt (Or.inr ⟨v, rfl⟩) (fun t ht _ => ⟨⟨w, v, rfl, trivial, hpost, ht ▸ hP, hD⟩, hS.F ht⟩) hS.2.2 hdg C0.2.2.2.2.2.2.1
end RUN
theorem mw_in {y : MethodName} {b : ByteArray} {n : Nat} {ret : Option FieldType} (h : Cond.code y b n ret ∈ BW) : ∀ w ∈ MW y b n ret, w ∈ BW := fun w hw => (List.mem_cons.mp hw).elim (fun e => e ▸ h) id
theorem pre0_blind {as : List Value} {D : va_G} {cA : Nat → ClassId} {wc : va_W} {sz : Nat} : FrameBlind (va_Pc as (Pre0 D cA wc sz)) := by
  intro a U g mk q
  obtain ⟨q0, q1, qP, qK, qD⟩ := q
  exact ⟨q0, q1, qP, va_K.moved (u := U) (U := U.calling g mk a) (Vm.Alike.refl U.vm) qK, qD⟩
section CALL
variable {p : Program} {l : Launch} {e : Env} {R : Room} {s : State} {m : MethodId} {args : Array Value} {below : List Frame} {meth : Method} {c : Code} {D : va_G} {cA : Nat → ClassId} {A : Nat → Prop} {y0 : MethodName} {b0 : ByteArray} {n0 : Nat} {r0 : Option FieldType} {H : Heap} {locs : List Loc} {cells slots : Nat} {pc : Nat} {ls : Array Slot} {Q : State → Prop}
  {y : MethodName} {b : ByteArray} {n : Nat} {ret : Option FieldType} {F1 L1 mc1 ms1 idx : Nat} {wc wr ws : va_W} {As rest st : List Value} {a : Nat}
/-- what a call of a virtual method wants of the tables -/
def LinkV (own : String) (idx : Nat) (y : MethodName) (b : ByteArray) (n : Nat) (ret : Option FieldType) (k : Nat) : Prop :=
  Cond.methodLink own idx y ∈ BW ∧ Cond.instanceMethod y ∈ BW ∧ Cond.selects y.cls y y ∈ BW ∧ Cond.initialized y.cls ∈ BW ∧ Cond.code y b n ret ∈ BW ∧ y.cls ≠ "java/lang/invoke/MethodHandle" ∧ y.cls ≠ "java/lang/invoke/VarHandle" ∧ (parseMethodDescriptor y.desc).map (fun d => d.parameters.length) = some k
def LinkS (own : String) (idx : Nat) (y : MethodName) (b : ByteArray) (n : Nat) (ret : Option FieldType) (k : Nat) : Prop :=
  Cond.methodLink own idx y ∈ BW ∧ Cond.static y ∈ BW ∧ Cond.initialized y.cls ∈ BW ∧ Cond.code y b n ret ∈ BW ∧ y.cls ≠ "java/lang/invoke/MethodHandle" ∧ y.cls ≠ "java/lang/invoke/VarHandle" ∧ (parseMethodDescriptor y.desc).map (fun d => d.parameters.length) = some k
def LinkI (own : String) (idx : Nat) (y : MethodName) (b : ByteArray) (n : Nat) (k : Nat) : Prop :=
  Cond.methodLink own idx y ∈ BW ∧ Cond.instanceMethod y ∈ BW ∧ Cond.initialized y.cls ∈ BW ∧ Cond.code y b n none ∈ BW ∧ y.name = "<init>" ∧ y.cls ≠ "java/lang/invoke/MethodHandle" ∧ y.cls ≠ "java/lang/invoke/VarHandle" ∧ (parseMethodDescriptor y.desc).map (fun d => d.parameters.length) = some k
theorem cw_v {k : Nat} (hts : ∀ w ∈ BW, w.before args s = true) (hl : LinkV y0.cls idx y b n ret k) (hR : (Nat.ble (F1 + 1) R.frames && Nat.ble (8 + (n + 11) + L1) R.locals) = true) : CallW R s args y0.cls y.cls idx y b n ret (MW y b n ret) (RMx F1 L1 mc1 ms1) mc1 ms1 k := by
  obtain ⟨h1, h2, h3, h4, h5, h6, h7, h8⟩ := hl
  have hR := Bool.and_eq_true_iff.mp hR
  refine cwV k hts (bw_goodIn ?_) rfl rfl rfl ⟨rfl, h6, h7, h8⟩ ⟨Nat.le_of_ble_eq_true hR.1, Nat.le_of_ble_eq_true hR.2⟩
  intro w hw
  rcases List.mem_append.mp hw with h | h
  · simp only [List.mem_cons, List.not_mem_nil, or_false] at h
    rcases h with rfl | rfl | rfl | rfl <;> assumption
  · exact mw_in h5 w h
theorem cw_s {k : Nat} (hts : ∀ w ∈ BW, w.before args s = true) (hl : LinkS y0.cls idx y b n ret k) (hR : (Nat.ble (F1 + 1) R.frames && Nat.ble (8 + (n + 11) + L1) R.locals) = true) : CallB R s args y0.cls idx y b n ret (MW y b n ret) (RMx F1 L1 mc1 ms1) mc1 ms1 k ∧ (Cond.static y).before args s = true := by
  obtain ⟨h1, h2, h3, h5, h6, h7, h8⟩ := hl
  have hR := Bool.and_eq_true_iff.mp hR
  exact ⟨callB_of k hts (bw_goodIn (mw_in h5)) rfl rfl rfl (hts _ h3) (hts _ h1) ⟨h6, h7, h8⟩ ⟨Nat.le_of_ble_eq_true hR.1, Nat.le_of_ble_eq_true hR.2⟩, hts _ h2⟩
theorem cw_i {k : Nat} (hts : ∀ w ∈ BW, w.before args s = true) (hl : LinkI y0.cls idx y b n k) (hR : (Nat.ble (F1 + 1) R.frames && Nat.ble (8 + (n + 11) + L1) R.locals) = true) : CallB R s args y0.cls idx y b n none (MW y b n none) (RMx F1 L1 mc1 ms1) mc1 ms1 k ∧ y.name = "<init>" ∧ (Cond.instanceMethod y).before args s = true := by
  obtain ⟨h1, h2, h3, h5, h0, h6, h7, h8⟩ := hl
  have hR := Bool.and_eq_true_iff.mp hR
  exact ⟨callB_of k hts (bw_goodIn (mw_in h5)) rfl rfl rfl (hts _ h3) (hts _ h1) ⟨h6, h7, h8⟩ ⟨Nat.le_of_ble_eq_true hR.1, Nat.le_of_ble_eq_true hR.2⟩, h0, hts _ h2⟩
theorem pre_s (hK : va_K D vwCl (TY cA) s) (hP : va_P D vwCl ws H) (hD : va_D A ws) (hp : ws.Perm (wc ++ wr)) (st : List Value) : PreS s H (va_Pc st (Pre0 D cA wc H.size)) st :=
  ⟨pre0_blind, fun U hU hW => ⟨rfl, by rw [hU], by rw [hU]; exact (hP.perm hp).left, va_K.moved hW.alike hK, (hD.perm hp).left.weaken (fun _ _ _ _ => trivial)⟩⟩
theorem callVI {k : Nat} {post : Int32 → va_W → Prop} (C0 : Ctx p s m args meth c y0 b0 n0 r0 D cA A) (hc : CI l D cA y b n ret F1 L1 (.ref a :: As) wc mc1 ms1 post) (hl : LinkV y0.cls idx y b n ret k) (hR : (Nat.ble (F1 + 1) R.frames && Nat.ble (8 + (n + 11) + L1) R.locals) = true) (hP : va_P D vwCl ws H) (hD : va_D A ws) (hS : va_S A s.heap H locs) (hp : ws.Perm (wc ++ wr)) (q0 ci : Nat) {fs : List Value} {clq : vw_C} (hq : ws[q0]? = some (a, .inr (ci, fs))) (hcl : vwCl[ci]? = some clq) (hcy : clq.1 = y.cls) (hsize : ls.size = n0) (hn : As.length = k) (hst : st = As.reverse ++ .ref a :: rest) (hW : (rest.map fun v => v.category).sum ≤ 8) (hdg : decode b0 pc = .ok (.invokevirtual idx, 3)) (hcells : cells + mc1 ≤ R.cells ∧ slots + ms1 ≤ R.slots)
    (kk : ∀ (r : Int32) (w : va_W) (H1 : Heap) (locs1 : List Loc), post r w → va_P D vwCl (w ++ wr) H1 → va_D A (w ++ wr) → va_S A s.heap H1 locs1 → W p l e R s m args below meth c H1 locs1 (cells + mc1) (slots + ms1) Q (F0 m (pc + 3) ls (.int r :: rest))) : W p l e R s m args below meth c H locs cells slots Q (F0 m pc ls st) := by
  have hts := C0.2.2.2.2.2.1
  have hFc := w_free hD hp hS C0.2.2.2.2.2.2.2.2
  refine va_calli (va_runV (As := As) (rest := rest) ⟨C0.1, C0.2.1, C0.2.2.2.1, C0.2.2.2.2.1, hts⟩ (hc H.size) (cw_v hts hl hR) ⟨pre0_blind, by rw [← hcy]; exact va_recv C0.2.2.2.2.2.2.2.1 hP hcl hq, (pre_s C0.2.2.2.2.2.2.2.1 hP hD hp _).2⟩ rfl hn hsize hst (lv_room hW) hdg hcells) hS (fun q _ h => hFc q h) hFc (fun r u t H1 locs1 ht hvm hw hB hz1 hk1 hS1 => ?_)
  obtain ⟨hP1, hD1⟩ := hB
  rw [ht] at hP1
  obtain ⟨hP2, hD2⟩ := w_join (hP.perm hp) (hD.perm hp) hk1 hFc hP1 hD1
  exact kk r u H1 locs1 hw hP2 hD2 hS1
theorem callVL {k : Nat} {post : Int64 → va_W → Prop} (C0 : Ctx p s m args meth c y0 b0 n0 r0 D cA A) (hc : CL l D cA y b n ret F1 L1 (.ref a :: As) wc mc1 ms1 post) (hl : LinkV y0.cls idx y b n ret k) (hR : (Nat.ble (F1 + 1) R.frames && Nat.ble (8 + (n + 11) + L1) R.locals) = true) (hP : va_P D vwCl ws H) (hD : va_D A ws) (hS : va_S A s.heap H locs) (hp : ws.Perm (wc ++ wr)) (q0 ci : Nat) {fs : List Value} {clq : vw_C} (hq : ws[q0]? = some (a, .inr (ci, fs))) (hcl : vwCl[ci]? = some clq) (hcy : clq.1 = y.cls) (hsize : ls.size = n0) (hn : As.length = k) (hst : st = As.reverse ++ .ref a :: rest) (hW : (rest.map fun v => v.category).sum ≤ 8) (hdg : decode b0 pc = .ok (.invokevirtual idx, 3)) (hcells : cells + mc1 ≤ R.cells ∧ slots + ms1 ≤ R.slots)
    (kk : ∀ (r : Int64) (w : va_W) (H1 : Heap) (locs1 : List Loc), post r w → va_P D vwCl (w ++ wr) H1 → va_D A (w ++ wr) → va_S A s.heap H1 locs1 → W p l e R s m args below meth c H1 locs1 (cells + mc1) (slots + ms1) Q (F0 m (pc + 3) ls (.long r :: rest))) : W p l e R s m args below meth c H locs cells slots Q (F0 m pc ls st) := by
  have hts := C0.2.2.2.2.2.1
  have hFc := w_free hD hp hS C0.2.2.2.2.2.2.2.2
  refine va_calll (va_runV (As := As) (rest := rest) ⟨C0.1, C0.2.1, C0.2.2.2.1, C0.2.2.2.2.1, hts⟩ (hc H.size) (cw_v hts hl hR) ⟨pre0_blind, by rw [← hcy]; exact va_recv C0.2.2.2.2.2.2.2.1 hP hcl hq, (pre_s C0.2.2.2.2.2.2.2.1 hP hD hp _).2⟩ rfl hn hsize hst (lv_room hW) hdg hcells) hS (fun q _ h => hFc q h) hFc (fun r u t H1 locs1 ht hvm hw hB hz1 hk1 hS1 => ?_)
  obtain ⟨hP1, hD1⟩ := hB
  rw [ht] at hP1
  obtain ⟨hP2, hD2⟩ := w_join (hP.perm hp) (hD.perm hp) hk1 hFc hP1 hD1
  exact kk r u H1 locs1 hw hP2 hD2 hS1
theorem callVV {k : Nat} {post : va_W → Prop} (C0 : Ctx p s m args meth c y0 b0 n0 r0 D cA A) (hc : CV l D cA y b n ret F1 L1 (.ref a :: As) wc mc1 ms1 post) (hl : LinkV y0.cls idx y b n ret k) (hR : (Nat.ble (F1 + 1) R.frames && Nat.ble (8 + (n + 11) + L1) R.locals) = true) (hP : va_P D vwCl ws H) (hD : va_D A ws) (hS : va_S A s.heap H locs) (hp : ws.Perm (wc ++ wr)) (q0 ci : Nat) {fs : List Value} {clq : vw_C} (hq : ws[q0]? = some (a, .inr (ci, fs))) (hcl : vwCl[ci]? = some clq) (hcy : clq.1 = y.cls) (hsize : ls.size = n0) (hn : As.length = k) (hst : st = As.reverse ++ .ref a :: rest) (hW : (rest.map fun v => v.category).sum ≤ 8) (hdg : decode b0 pc = .ok (.invokevirtual idx, 3)) (hcells : cells + mc1 ≤ R.cells ∧ slots + ms1 ≤ R.slots)
    (kk : ∀ (w : va_W) (H1 : Heap) (locs1 : List Loc), post w → va_P D vwCl (w ++ wr) H1 → va_D A (w ++ wr) → va_S A s.heap H1 locs1 → W p l e R s m args below meth c H1 locs1 (cells + mc1) (slots + ms1) Q (F0 m (pc + 3) ls (rest))) : W p l e R s m args below meth c H locs cells slots Q (F0 m pc ls st) := by
  have hts := C0.2.2.2.2.2.1
  have hFc := w_free hD hp hS C0.2.2.2.2.2.2.2.2
  refine va_callv (va_runV (As := As) (rest := rest) ⟨C0.1, C0.2.1, C0.2.2.2.1, C0.2.2.2.2.1, hts⟩ (hc H.size) (cw_v hts hl hR) ⟨pre0_blind, by rw [← hcy]; exact va_recv C0.2.2.2.2.2.2.2.1 hP hcl hq, (pre_s C0.2.2.2.2.2.2.2.1 hP hD hp _).2⟩ rfl hn hsize hst (lv_room hW) hdg hcells) hS (fun q _ h => hFc q h) hFc (fun u t H1 locs1 ht hvm hw hB hz1 hk1 hS1 => ?_)
  obtain ⟨hP1, hD1⟩ := hB
  rw [ht] at hP1
  obtain ⟨hP2, hD2⟩ := w_join (hP.perm hp) (hD.perm hp) hk1 hFc hP1 hD1
  exact kk u H1 locs1 hw hP2 hD2 hS1
theorem callVR {k : Nat} {post : Nat → va_W → Prop} (C0 : Ctx p s m args meth c y0 b0 n0 r0 D cA A) (hc : CR l D cA y b n ret F1 L1 (.ref a :: As) wc mc1 ms1 post) (hl : LinkV y0.cls idx y b n ret k) (hR : (Nat.ble (F1 + 1) R.frames && Nat.ble (8 + (n + 11) + L1) R.locals) = true) (hP : va_P D vwCl ws H) (hD : va_D A ws) (hS : va_S A s.heap H locs) (hp : ws.Perm (wc ++ wr)) (q0 ci : Nat) {fs : List Value} {clq : vw_C} (hq : ws[q0]? = some (a, .inr (ci, fs))) (hcl : vwCl[ci]? = some clq) (hcy : clq.1 = y.cls) (hsize : ls.size = n0) (hn : As.length = k) (hst : st = As.reverse ++ .ref a :: rest) (hW : (rest.map fun v => v.category).sum ≤ 8) (hdg : decode b0 pc = .ok (.invokevirtual idx, 3)) (hcells : cells + mc1 ≤ R.cells ∧ slots + ms1 ≤ R.slots)
    (kk : ∀ (r : Nat) (w : va_W) (H1 : Heap) (locs1 : List Loc), post r w → va_P D vwCl (w ++ wr) H1 → va_D A (w ++ wr) → va_S A s.heap H1 locs1 → W p l e R s m args below meth c H1 locs1 (cells + mc1) (slots + ms1) Q (F0 m (pc + 3) ls (.ref r :: rest))) : W p l e R s m args below meth c H locs cells slots Q (F0 m pc ls st) := by
  have hts := C0.2.2.2.2.2.1
  have hFc := w_free hD hp hS C0.2.2.2.2.2.2.2.2
  refine va_callr (va_runV (As := As) (rest := rest) ⟨C0.1, C0.2.1, C0.2.2.2.1, C0.2.2.2.2.1, hts⟩ (hc H.size) (cw_v hts hl hR) ⟨pre0_blind, by rw [← hcy]; exact va_recv C0.2.2.2.2.2.2.2.1 hP hcl hq, (pre_s C0.2.2.2.2.2.2.2.1 hP hD hp _).2⟩ rfl hn hsize hst (lv_room hW) hdg hcells) hS (fun q _ h => hFc q h) hFc (fun u r t H1 locs1 ht hvm hw0 hB hz1 hk1 hS1 => ?_)
  obtain ⟨hw, hP1, hD1⟩ := hB
  rw [ht] at hP1
  obtain ⟨hP2, hD2⟩ := w_join (hP.perm hp) (hD.perm hp) hk1 hFc hP1 hD1
  exact kk r u H1 locs1 hw hP2 hD2 hS1
theorem callSI {k : Nat} {post : Int32 → va_W → Prop} (C0 : Ctx p s m args meth c y0 b0 n0 r0 D cA A) (hc : CI l D cA y b n ret F1 L1 (As) wc mc1 ms1 post) (hl : LinkS y0.cls idx y b n ret k) (hR : (Nat.ble (F1 + 1) R.frames && Nat.ble (8 + (n + 11) + L1) R.locals) = true) (hP : va_P D vwCl ws H) (hD : va_D A ws) (hS : va_S A s.heap H locs) (hp : ws.Perm (wc ++ wr)) (hsize : ls.size = n0) (hn : As.length = k) (hst : st = As.reverse ++ rest) (hW : (rest.map fun v => v.category).sum ≤ 8) (hdg : decode b0 pc = .ok (.invokestatic idx, 3)) (hcells : cells + mc1 ≤ R.cells ∧ slots + ms1 ≤ R.slots)
    (kk : ∀ (r : Int32) (w : va_W) (H1 : Heap) (locs1 : List Loc), post r w → va_P D vwCl (w ++ wr) H1 → va_D A (w ++ wr) → va_S A s.heap H1 locs1 → W p l e R s m args below meth c H1 locs1 (cells + mc1) (slots + ms1) Q (F0 m (pc + 3) ls (.int r :: rest))) : W p l e R s m args below meth c H locs cells slots Q (F0 m pc ls st) := by
  have hts := C0.2.2.2.2.2.1
  have hFc := w_free hD hp hS C0.2.2.2.2.2.2.2.2
  refine va_calli (va_runS (As := As) (rest := rest) ⟨C0.1, C0.2.1, C0.2.2.2.1, C0.2.2.2.2.1, hts⟩ (hc H.size) (cw_s hts hl hR) (pre_s C0.2.2.2.2.2.2.2.1 hP hD hp _) rfl hn hsize hst (lv_room hW) hdg hcells) hS (fun q _ h => hFc q h) hFc (fun r u t H1 locs1 ht hvm hw hB hz1 hk1 hS1 => ?_)
  obtain ⟨hP1, hD1⟩ := hB
  rw [ht] at hP1
  obtain ⟨hP2, hD2⟩ := w_join (hP.perm hp) (hD.perm hp) hk1 hFc hP1 hD1
  exact kk r u H1 locs1 hw hP2 hD2 hS1
theorem callSL {k : Nat} {post : Int64 → va_W → Prop} (C0 : Ctx p s m args meth c y0 b0 n0 r0 D cA A) (hc : CL l D cA y b n ret F1 L1 (As) wc mc1 ms1 post) (hl : LinkS y0.cls idx y b n ret k) (hR : (Nat.ble (F1 + 1) R.frames && Nat.ble (8 + (n + 11) + L1) R.locals) = true) (hP : va_P D vwCl ws H) (hD : va_D A ws) (hS : va_S A s.heap H locs) (hp : ws.Perm (wc ++ wr)) (hsize : ls.size = n0) (hn : As.length = k) (hst : st = As.reverse ++ rest) (hW : (rest.map fun v => v.category).sum ≤ 8) (hdg : decode b0 pc = .ok (.invokestatic idx, 3)) (hcells : cells + mc1 ≤ R.cells ∧ slots + ms1 ≤ R.slots)
    (kk : ∀ (r : Int64) (w : va_W) (H1 : Heap) (locs1 : List Loc), post r w → va_P D vwCl (w ++ wr) H1 → va_D A (w ++ wr) → va_S A s.heap H1 locs1 → W p l e R s m args below meth c H1 locs1 (cells + mc1) (slots + ms1) Q (F0 m (pc + 3) ls (.long r :: rest))) : W p l e R s m args below meth c H locs cells slots Q (F0 m pc ls st) := by
  have hts := C0.2.2.2.2.2.1
  have hFc := w_free hD hp hS C0.2.2.2.2.2.2.2.2
  refine va_calll (va_runS (As := As) (rest := rest) ⟨C0.1, C0.2.1, C0.2.2.2.1, C0.2.2.2.2.1, hts⟩ (hc H.size) (cw_s hts hl hR) (pre_s C0.2.2.2.2.2.2.2.1 hP hD hp _) rfl hn hsize hst (lv_room hW) hdg hcells) hS (fun q _ h => hFc q h) hFc (fun r u t H1 locs1 ht hvm hw hB hz1 hk1 hS1 => ?_)
  obtain ⟨hP1, hD1⟩ := hB
  rw [ht] at hP1
  obtain ⟨hP2, hD2⟩ := w_join (hP.perm hp) (hD.perm hp) hk1 hFc hP1 hD1
  exact kk r u H1 locs1 hw hP2 hD2 hS1
theorem callSV {k : Nat} {post : va_W → Prop} (C0 : Ctx p s m args meth c y0 b0 n0 r0 D cA A) (hc : CV l D cA y b n ret F1 L1 (As) wc mc1 ms1 post) (hl : LinkS y0.cls idx y b n ret k) (hR : (Nat.ble (F1 + 1) R.frames && Nat.ble (8 + (n + 11) + L1) R.locals) = true) (hP : va_P D vwCl ws H) (hD : va_D A ws) (hS : va_S A s.heap H locs) (hp : ws.Perm (wc ++ wr)) (hsize : ls.size = n0) (hn : As.length = k) (hst : st = As.reverse ++ rest) (hW : (rest.map fun v => v.category).sum ≤ 8) (hdg : decode b0 pc = .ok (.invokestatic idx, 3)) (hcells : cells + mc1 ≤ R.cells ∧ slots + ms1 ≤ R.slots)
    (kk : ∀ (w : va_W) (H1 : Heap) (locs1 : List Loc), post w → va_P D vwCl (w ++ wr) H1 → va_D A (w ++ wr) → va_S A s.heap H1 locs1 → W p l e R s m args below meth c H1 locs1 (cells + mc1) (slots + ms1) Q (F0 m (pc + 3) ls (rest))) : W p l e R s m args below meth c H locs cells slots Q (F0 m pc ls st) := by
  have hts := C0.2.2.2.2.2.1
  have hFc := w_free hD hp hS C0.2.2.2.2.2.2.2.2
  refine va_callv (va_runS (As := As) (rest := rest) ⟨C0.1, C0.2.1, C0.2.2.2.1, C0.2.2.2.2.1, hts⟩ (hc H.size) (cw_s hts hl hR) (pre_s C0.2.2.2.2.2.2.2.1 hP hD hp _) rfl hn hsize hst (lv_room hW) hdg hcells) hS (fun q _ h => hFc q h) hFc (fun u t H1 locs1 ht hvm hw hB hz1 hk1 hS1 => ?_)
  obtain ⟨hP1, hD1⟩ := hB
  rw [ht] at hP1
  obtain ⟨hP2, hD2⟩ := w_join (hP.perm hp) (hD.perm hp) hk1 hFc hP1 hD1
  exact kk u H1 locs1 hw hP2 hD2 hS1
theorem callSR {k : Nat} {post : Nat → va_W → Prop} (C0 : Ctx p s m args meth c y0 b0 n0 r0 D cA A) (hc : CR l D cA y b n ret F1 L1 (As) wc mc1 ms1 post) (hl : LinkS y0.cls idx y b n ret k) (hR : (Nat.ble (F1 + 1) R.frames && Nat.ble (8 + (n + 11) + L1) R.locals) = true) (hP : va_P D vwCl ws H) (hD : va_D A ws) (hS : va_S A s.heap H locs) (hp : ws.Perm (wc ++ wr)) (hsize : ls.size = n0) (hn : As.length = k) (hst : st = As.reverse ++ rest) (hW : (rest.map fun v => v.category).sum ≤ 8) (hdg : decode b0 pc = .ok (.invokestatic idx, 3)) (hcells : cells + mc1 ≤ R.cells ∧ slots + ms1 ≤ R.slots)
    (kk : ∀ (r : Nat) (w : va_W) (H1 : Heap) (locs1 : List Loc), post r w → va_P D vwCl (w ++ wr) H1 → va_D A (w ++ wr) → va_S A s.heap H1 locs1 → W p l e R s m args below meth c H1 locs1 (cells + mc1) (slots + ms1) Q (F0 m (pc + 3) ls (.ref r :: rest))) : W p l e R s m args below meth c H locs cells slots Q (F0 m pc ls st) := by
  have hts := C0.2.2.2.2.2.1
  have hFc := w_free hD hp hS C0.2.2.2.2.2.2.2.2
  refine va_callr (va_runS (As := As) (rest := rest) ⟨C0.1, C0.2.1, C0.2.2.2.1, C0.2.2.2.2.1, hts⟩ (hc H.size) (cw_s hts hl hR) (pre_s C0.2.2.2.2.2.2.2.1 hP hD hp _) rfl hn hsize hst (lv_room hW) hdg hcells) hS (fun q _ h => hFc q h) hFc (fun u r t H1 locs1 ht hvm hw0 hB hz1 hk1 hS1 => ?_)
  obtain ⟨hw, hP1, hD1⟩ := hB
  rw [ht] at hP1
  obtain ⟨hP2, hD2⟩ := w_join (hP.perm hp) (hD.perm hp) hk1 hFc hP1 hD1
  exact kk r u H1 locs1 hw hP2 hD2 hS1
theorem callIV {k : Nat} {post : va_W → Prop} (C0 : Ctx p s m args meth c y0 b0 n0 r0 D cA A) (hc : CV l D cA y b n none F1 L1 (.ref a :: As) wc mc1 ms1 post) (hl : LinkI y0.cls idx y b n k) (hR : (Nat.ble (F1 + 1) R.frames && Nat.ble (8 + (n + 11) + L1) R.locals) = true) (hP : va_P D vwCl ws H) (hD : va_D A ws) (hS : va_S A s.heap H locs) (hp : ws.Perm (wc ++ wr)) (hsize : ls.size = n0) (hn : As.length = k) (hst : st = As.reverse ++ .ref a :: rest) (hW : (rest.map fun v => v.category).sum ≤ 8) (hdg : decode b0 pc = .ok (.invokespecial idx, 3)) (hcells : cells + mc1 ≤ R.cells ∧ slots + ms1 ≤ R.slots)
    (kk : ∀ (w : va_W) (H1 : Heap) (locs1 : List Loc), post w → va_P D vwCl (w ++ wr) H1 → va_D A (w ++ wr) → va_S A s.heap H1 locs1 → W p l e R s m args below meth c H1 locs1 (cells + mc1) (slots + ms1) Q (F0 m (pc + 3) ls (rest))) : W p l e R s m args below meth c H locs cells slots Q (F0 m pc ls st) := by
  have hts := C0.2.2.2.2.2.1
  have hFc := w_free hD hp hS C0.2.2.2.2.2.2.2.2
  refine va_callv (va_runI (As := As) (rest := rest) ⟨C0.1, C0.2.1, C0.2.2.2.1, C0.2.2.2.2.1, hts⟩ (hc H.size) (cw_i hts hl hR) (pre_s C0.2.2.2.2.2.2.2.1 hP hD hp _) rfl hn hsize hst (lv_room hW) hdg hcells) hS (fun q _ h => hFc q h) hFc (fun u t H1 locs1 ht hvm hw hB hz1 hk1 hS1 => ?_)
  obtain ⟨hP1, hD1⟩ := hB
  rw [ht] at hP1
  obtain ⟨hP2, hD2⟩ := w_join (hP.perm hp) (hD.perm hp) hk1 hFc hP1 hD1
  exact kk u H1 locs1 hw hP2 hD2 hS1
end CALL

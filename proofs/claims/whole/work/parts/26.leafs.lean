theorem va_P.snc {D : va_G} {cl : List vw_C} {segs : List va_W} {x : Nat × va_E} {H : Heap} (h : va_P D cl (segs.flatten ++ [x]) H) : va_P D cl (segs ++ [[x]]).flatten H := by
  rw [List.flatten_append]; simpa using h
theorem va_D.snc {A : Nat → Prop} {segs : List va_W} {x : Nat × va_E} (h : va_D A (segs.flatten ++ [x])) : va_D A (segs ++ [[x]]).flatten := by
  rw [List.flatten_append]; simpa using h
theorem seg_outL (segs : List va_W) (ia ir : List Nat) (n : Nat) (A B : List va_W) (hn : segs.length = n) (hA : ia.map (fun i => segs.getD i []) = A) (hB : ir.map (fun i => segs.getD i []) = B) (h : (ia ++ ir).Perm (List.range n)) : segs.flatten.Perm (A.flatten ++ B.flatten) := by
  subst hA hB
  exact seg_out segs ia ir n hn h
theorem seg_outW (segs : List va_W) (i : Nat) (ir : List Nat) (n : Nat) (w : va_W) (B : List va_W) (hn : segs.length = n) (hA : segs.getD i [] = w) (hB : ir.map (fun i => segs.getD i []) = B) (h : ([i] ++ ir).Perm (List.range n)) : segs.flatten.Perm (w ++ B.flatten) := by
  have h1 := seg_outL segs [i] ir n [w] B hn (by simp only [List.map_cons, List.map_nil, hA]) hB h
  simpa using h1
section NEWT
variable {p : Program} {l : Launch} {e : Env} {R : Room} {s : State} {m : MethodId} {args : Array Value} {below : List Frame} {meth : Method} {c : Code} {H H0 : Heap} {locs : List Loc} {cells slots : Nat} {Q : State → Prop} {cc : ByteArray} {pc : Nat} {ls : Array Slot} {rest : List Value} {D : va_G} {cA : Nat → ClassId} {A : Nat → Prop} {ws : va_W}
theorem cls_of {cl : List vw_C} {t1 t2 : List (ClassId × FieldType)} {c1 c2 : ClassId} {ty : FieldType} {i j : Nat} (h1 : va_K D cl t1 s) (h2 : va_K D cl t2 s) (e1 : t1[i]? = some (c1, ty)) (e2 : t2[j]? = some (c2, ty)) : c1 = c2 := by
  have a := (h1.2 i _ e1).2
  have b := (h2.2 j _ e2).2
  cases ty with
  | object C =>
    obtain ⟨-, -, -, -, -, a⟩ := a
    obtain ⟨-, -, -, -, -, b⟩ := b
    exact Option.some.inj (a.symm.trans b)
  | _ => exact Option.some.inj (a.symm.trans b)
theorem newT (hx : p.tables.exec = Jvm.exec) (hb : c.code = cc) (atype : ArrayType) {ty : FieldType} (hty : newarray.typeOf atype = ty) (harr : (Cond.arrayClass ty).before args s = true) (hK : va_K D vwCl (TY cA) s) (t : Nat) (ht : (TY cA)[t]? = some (cA t, ty)) (hP : va_P D vwCl ws H) (hD : va_D A ws) (hS : va_S A H0 H locs) (hA : ∀ q, H0.size ≤ q → A q) {v : Int32} {N : Nat} {a0 : vp_A} (ha : ∀ cA : ClassId, vp_cell cA a0 = arrV cA N (fun _ => defaultValue ty)) (hn : ¬ v < 0) (hN : v.toNatClampNeg = N) (hbytes : N * componentBytes ty ≤ 536870912) (hcells : cells + 1 ≤ R.cells) (hslots : slots + N ≤ R.slots) (hdg : decode cc pc = .ok (.newarray atype, 2))
    (kk : ∀ (q : Nat) (H1 : Heap), va_P D vwCl (ws ++ [(q, .inl (cA t, a0))]) H1 → va_D A (ws ++ [(q, .inl (cA t, a0))]) → va_S A H0 H1 locs → W p l e R s m args below meth c H1 locs (cells + 1) (slots + N) Q (F0 m (pc + 2) ls (.ref q :: rest))) : W p l e R s m args below meth c H locs cells slots Q (F0 m pc ls (.int v :: rest)) := by
  refine va_newa (atype := atype) hx hb (by rw [hty]; exact harr) hty hK hP hD hS hA ha hn hN hbytes hcells hslots hdg (fun q cB H1 hK' hP' hD' hS' => ?_)
  have e : cB = cA t := cls_of hK' hK (i := (TY cA).length) (by rw [List.getElem?_append_right (Nat.le_refl _), Nat.sub_self]; rfl) ht
  rw [e] at hP' hD'
  exact kk q H1 hP' hD' hS'
end NEWT
theorem lk_objinit_i : Cond.instanceMethod objectInit ∈ BW := bw_in (tw_1 _ (List.mem_of_getElem? (i := 23) (by decide +kernel))) rfl
theorem lk_objinit_c : Cond.code objectInit ⟨#[0xb1]⟩ 1 none ∈ BW := bw_in (tw_1 _ (List.mem_of_getElem? (i := 24) (by decide +kernel))) rfl
theorem callIN {p : Program} {l : Launch} {e : Env} {R : Room} {s : State} {m : MethodId} {args : Array Value} {below : List Frame} {meth : Method} {c : Code} {D : va_G} {cA : Nat → ClassId} {A : Nat → Prop} {y0 : MethodName} {b0 : ByteArray} {n0 : Nat} {r0 : Option FieldType} {H : Heap} {locs : List Loc} {cells slots : Nat} {pc : Nat} {ls : Array Slot} {Q : State → Prop}
  {y : MethodName} {b : ByteArray} {n : Nat} {F1 L1 mc1 ms1 idx : Nat} {wc wr ws : va_W} {As rest st : List Value} {a : Nat} {host : String} {k : Nat} {post : va_W → Prop} (C0 : Ctx p s m args meth c y0 b0 n0 r0 D cA A) (hc : CV l D cA y b n none F1 L1 (.ref a :: As) wc mc1 ms1 post) (hl : va_Nw (.methodLinkNest y0.cls idx y host) s) (h2 : Cond.instanceMethod y ∈ BW) (h3 : Cond.initialized y.cls ∈ BW) (h5 : Cond.code y b n none ∈ BW) (hd : y.cls ≠ "java/lang/invoke/MethodHandle" ∧ y.cls ≠ "java/lang/invoke/VarHandle" ∧ (parseMethodDescriptor y.desc).map (fun d => d.parameters.length) = some k) (hR : (Nat.ble (F1 + 1) R.frames && Nat.ble (8 + (n + 11) + L1) R.locals) = true) (hP : va_P D vwCl ws H) (hD : va_D A ws) (hS : va_S A s.heap H locs) (hp : ws.Perm (wc ++ wr)) (hsize : ls.size = n0) (hn : As.length = k) (hst : st = As.reverse ++ .ref a :: rest) (hW : (rest.map fun v => v.category).sum ≤ 8) (hdg : decode b0 pc = .ok (.invokespecial idx, 3)) (hcells : cells + mc1 ≤ R.cells ∧ slots + ms1 ≤ R.slots)
    (kk : ∀ (w : va_W) (H1 : Heap) (locs1 : List Loc), post w → va_P D vwCl (w ++ wr) H1 → va_D A (w ++ wr) → va_S A s.heap H1 locs1 → W p l e R s m args below meth c H1 locs1 (cells + mc1) (slots + ms1) Q (F0 m (pc + 3) ls (rest))) (hy1 : y.name = "<init>" := by rfl) : W p l e R s m args below meth c H locs cells slots Q (F0 m pc ls st) := by
  have hts := C0.2.2.2.2.2.1
  have hFc := w_free hD hp hS C0.2.2.2.2.2.2.2.2
  have hR := Bool.and_eq_true_iff.mp hR
  refine va_callv (va_runIN (host := host) (As := As) (rest := rest) ⟨C0.1, C0.2.1, C0.2.2.2.1, C0.2.2.2.2.1, hts⟩ (hc H.size) ⟨va_cnB k hts (bw_goodIn (mw_in h5)) rfl rfl rfl hl (hts _ h3) hd ⟨Nat.le_of_ble_eq_true hR.1, Nat.le_of_ble_eq_true hR.2⟩, hy1, hts _ h2⟩ (pre_s C0.2.2.2.2.2.2.2.1 hP hD hp _) rfl hn hsize hst (lv_room hW) hdg hcells) hS (fun q _ h => hFc q h) hFc (fun u t H1 locs1 ht hvm hw hB hz1 hk1 hS1 => ?_)
  obtain ⟨hP1, hD1⟩ := hB
  rw [ht] at hP1
  obtain ⟨hP2, hD2⟩ := w_join (hP.perm hp) (hD.perm hp) hk1 hFc hP1 hD1
  exact kk u H1 locs1 hw hP2 hD2 hS1
theorem newQ {p : Program} {l : Launch} {e : Env} {R : Room} {s : State} {m : MethodId} {args : Array Value} {below : List Frame} {meth : Method} {c : Code} {H H0 : Heap} {locs : List Loc} {cells slots : Nat} {Q : State → Prop} {cc : ByteArray} {pc : Nat} {ls : Array Slot} {rest : List Value} {D : va_G} {cA : Nat → ClassId} {A : Nat → Prop} {ws : va_W} {own C : String} {index : Nat} (hx : p.tables.exec = Jvm.exec) (hb : c.code = cc) (hown : s.vm.findClass own = some m.cls) (hcl : (Cond.classLink own index C).before args s = true) (hover : va_AO C s) (hK : va_K D vwCl (TY cA) s) (t : Nat) (ht : (TY cA)[t]? = some (cA t, .object C)) (hP : va_P D vwCl ws H) (hD : va_D A ws) (hS : va_S A H0 H locs) (hA : ∀ q, H0.size ≤ q → A q) {v : Int32} {N : Nat} (hn : ¬ v < 0) (hN : v.toNatClampNeg = N) (hbytes : N * 4 ≤ 536870912) (hcells : cells + 1 ≤ R.cells) (hslots : slots + N ≤ R.slots) (hdg : decode cc pc = .ok (.anewarray index, 3))
    (kk : ∀ (q : Nat) (H1 : Heap), va_P D vwCl (ws ++ [(q, .inl (cA t, N, .inr (.inr (.inr (.inr (fun _ => none))))))]) H1 → va_D A (ws ++ [(q, .inl (cA t, N, .inr (.inr (.inr (.inr (fun _ => none))))))]) → va_S A H0 H1 locs → W p l e R s m args below meth c H1 locs (cells + 1) (slots + N) Q (F0 m (pc + 3) ls (.ref q :: rest))) : W p l e R s m args below meth c H locs cells slots Q (F0 m pc ls (.int v :: rest)) := by
  refine va_newq hx hb hown hcl hover hK hP hD hS hA hn hN hbytes hcells hslots hdg (fun q cB H1 hK' hP' hD' hS' => ?_)
  have e : cB = cA t := cls_of hK' hK (i := (TY cA).length) (by rw [List.getElem?_append_right (Nat.le_refl _), Nat.sub_self]; rfl) ht
  rw [e] at hP' hD'
  exact kk q H1 hP' hD' hS'
theorem va_P.swp {D : va_G} {cl : List vw_C} {w1 w2 : va_W} {x y : Nat × va_E} {H : Heap} (h : va_P D cl (w1 ++ x :: w2) H) (hx : va_at D cl x H → va_at D cl y H) : va_P D cl (w1 ++ y :: w2) H := by
  refine va_P_iff.mpr fun q hq => ?_
  have h := va_P_iff.mp h
  rcases List.mem_append.mp hq with hq | hq
  · exact h q (List.mem_append_left _ hq)
  · rcases List.mem_cons.mp hq with rfl | hq
    · exact hx (h x (List.mem_append_right _ List.mem_cons_self))
    · exact h q (List.mem_append_right _ (List.mem_cons_of_mem _ hq))
theorem va_D.swp {A : Nat → Prop} {w1 w2 : va_W} {x y : Nat × va_E} (h : va_D A (w1 ++ x :: w2)) (e : x.1 = y.1) : va_D A (w1 ++ y :: w2) := by
  have h := va_D_iff.mp h
  refine va_D_iff.mpr ⟨?_, fun q hq => ?_⟩
  · rw [List.map_append, List.map_cons, ← e]
    rw [List.map_append, List.map_cons] at h
    exact h.1
  · rcases List.mem_append.mp hq with hq | hq
    · exact h.2 q (List.mem_append_left _ hq)
    · rcases List.mem_cons.mp hq with rfl | hq
      · rw [← e]; exact h.2 x (List.mem_append_right _ List.mem_cons_self)
      · exact h.2 q (List.mem_append_right _ (List.mem_cons_of_mem _ hq))
theorem arr_congr {D : va_G} {cl : List vw_C} {a n : Nat} {c : ClassId} {f g : Nat → Option Nat} {H : Heap} (e : ∀ j, j < n → f j = g j) (h : va_at D cl (a, .inl (c, n, .inr (.inr (.inr (.inr f))))) H) : va_at D cl (a, .inl (c, n, .inr (.inr (.inr (.inr g))))) H := by
  have e2 : vp_cell c (n, .inr (.inr (.inr (.inr f)))) = vp_cell c (n, .inr (.inr (.inr (.inr g)))) := by
    show arrV c n (fun j => va_rf (f j)) = arrV c n (fun j => va_rf (g j))
    unfold arrV
    congr 1
    apply Array.ext
    · simp
    · intro i h1 h2
      simp only [Array.size_ofFn] at h1
      simp [e i h1]
  show H[a]? = some (vp_cell c (n, .inr (.inr (.inr (.inr g)))))
  rw [← e2]
  exact h
theorem m_methodLink_P_Acts_3_java_lang_Object_init__V : (Cond.methodLink RX0 3 objectInit) ∈ BW := bw_in (tw_1 _ (List.mem_of_getElem? (i := 141) (by decide +kernel))) rfl
theorem m_arrayClass_Jvm_ClassFile_FieldType_int : (Cond.arrayClass Jvm.ClassFile.FieldType.int) ∈ BW := bw_in (tw_1 _ (List.mem_of_getElem? (i := 50) (by decide +kernel))) rfl
theorem m_methodLink_P_Text_3_java_lang_Object_init__V : (Cond.methodLink RX5 3 objectInit) ∈ BW := bw_in (tw_1 _ (List.mem_of_getElem? (i := 120) (by decide +kernel))) rfl
theorem m_arrayClass_Jvm_ClassFile_FieldType_byte : (Cond.arrayClass Jvm.ClassFile.FieldType.byte) ∈ BW := bw_in (tw_1 _ (List.mem_of_getElem? (i := 135) (by decide +kernel))) rfl
theorem m_methodLink_P_Tape_3_java_lang_Object_init__V : (Cond.methodLink RX4 3 objectInit) ∈ BW := bw_in (tw_1 _ (List.mem_of_getElem? (i := 166) (by decide +kernel))) rfl
theorem m_arrayClass_Jvm_ClassFile_FieldType_long : (Cond.arrayClass Jvm.ClassFile.FieldType.long) ∈ BW := bw_in (tw_1 _ (List.mem_of_getElem? (i := 180) (by decide +kernel))) rfl
theorem m_methodLink_P_Charter_3_java_lang_Object_init__V : (Cond.methodLink RX2 3 objectInit) ∈ BW := bw_in (tw_2 _ (List.mem_of_getElem? (i := 98) (by decide +kernel))) rfl
theorem m_methodLink_P_Rows_1_java_lang_Object_init__V : (Cond.methodLink RX3 1 objectInit) ∈ BW := bw_in (tw_1 _ (List.mem_of_getElem? (i := 36) (by decide +kernel))) rfl
set_option maxHeartbeats 4000000 in
set_option maxRecDepth 100000 in
theorem c_X0_init {l : Launch} {D : va_G} {cA : Nat → ClassId} (h : Nat) : CV l D cA yX0_init cX0_init 1 none 1 40 [.ref h] [(h, .inr (0, [.int 0, .null, .int 0, .int 0, .int 0]))] 1 20 (fun w => ∃ q : Nat → Nat, q 0 = h ∧ w = Aw q cA (fun _ => 0) (fun _ => 0)) := by
  intro sz
  refine met_start (by decide) rfl ?_
  intro p e s m args below meth c ls hsz hargs C0 hname hP hD hS hl
  generalize hAe : va_A [(h, .inr (0, [.int 0, .null, .int 0, .int 0, .int 0]))] sz = A at C0 hD hS ⊢
  obtain ⟨hx, hb, hr, hml, hown, hts, hlk, hK, hA⟩ := id C0
  replace hl : lv_has ls 1 [(0, .ref h)] := hl
  obtain ⟨Q, hQ⟩ : ∃ Q : State → Prop, Q = QV below D A (fun w => ∃ q : Nat → Nat, q 0 = h ∧ w = Aw q cA (fun _ => 0) (fun _ => 0)) args s 1 20 := ⟨_, rfl⟩
  refine cast (by rw [hQ]) (?_ : W p l e (RMx 1 40 1 20) s m args below meth c s.heap [] 0 0 Q (F0 m 0 ls []))
  replace hP : va_P D vwCl (List.flatten [[(h, .inr (0, [.int 0, .null, .int 0, .int 0, .int 0]))]]) s.heap := hP
  replace hD : va_D A (List.flatten [[(h, .inr (0, [.int 0, .null, .int 0, .int 0, .int 0]))]]) := hD
  refine lv_aload_n hx hb dX0_init_0 rfl (lv_at hl 0 rfl) ?_
  refine W.objInit hx hb hown (hts _ m_methodLink_P_Acts_3_java_lang_Object_init__V) (hts _ lk_objinit_i) (hts _ lk_objinit_c) rfl (by rw [hml]; exact hl.1) rfl dX0_init_1 (Nat.le_of_ble_eq_true rfl) (Nat.le_of_ble_eq_true rfl) ?_
  refine W.eq (g2 := F0 m 4 ls []) rfl ?_
  refine lv_aload_n hx hb dX0_init_4 rfl (lv_at hl 0 rfl) ?_
  refine lv_bipush (v := 20) hx hb dX0_init_5 (by decide) ?_
  refine newT (a0 := (20, .inl (fun _ => 0))) (N := 20) hx hb .int (ty := .int) rfl (hts _ m_arrayClass_Jvm_ClassFile_FieldType_int) hK 0 rfl hP hD hS hA (fun _ => rfl) (by decide) (by decide) (by decide) (Nat.le_of_ble_eq_true rfl) (Nat.le_of_ble_eq_true rfl) dX0_init_7 (fun q1 H hP hD hS => ?_)
  replace hP : va_P D vwCl (List.flatten [[(h, .inr (0, [.int 0, .null, .int 0, .int 0, .int 0]))], [(q1, .inl (cA 0, 20, .inl (fun _ => 0)))]]) H := va_P.snc (segs := [[(h, .inr (0, [.int 0, .null, .int 0, .int 0, .int 0]))]]) hP
  replace hD : va_D A (List.flatten [[(h, .inr (0, [.int 0, .null, .int 0, .int 0, .int 0]))], [(q1, .inl (cA 0, 20, .inl (fun _ => 0)))]]) := va_D.snc (segs := [[(h, .inr (0, [.int 0, .null, .int 0, .int 0, .int 0]))]]) hD
  refine W.widen (k := 1) (n := 20) (Nat.le_of_ble_eq_true rfl) (Nat.le_of_ble_eq_true rfl) ?_
  refine va_putF (D := D) (ci := 0) (v := .ref q1) (ty := (.array .int)) (C := RX0) (T := TX0) (N := 5) hx hb hts fw_0 tyX0 tyX0_ok nmX0 hown hK hP hD hS 0 rfl rfl 1 (by decide) (hts _ m_fieldLink_P_Acts_9_P_Acts_bodies_aI) (fun _ h9 => h9) rfl hname rfl (by decide +kernel) rfl rfl (Nat.le_of_ble_eq_true rfl) dX0_init_9 (fun H locs hP hD hS => ?_)
  replace hP : va_P D vwCl (List.flatten [[(h, .inr (0, [.int 0, .ref q1, .int 0, .int 0, .int 0]))], [(q1, .inl (cA 0, 20, .inl (fun _ => 0)))]]) H := hP
  replace hD : va_D A (List.flatten [[(h, .inr (0, [.int 0, .ref q1, .int 0, .int 0, .int 0]))], [(q1, .inl (cA 0, 20, .inl (fun _ => 0)))]]) := hD
  rw [hQ]
  exact ret_v C0 hP hD hS ⟨(fun k => if k = 1 then q1 else h), rfl, rfl⟩ dX0_init_12
set_option maxHeartbeats 4000000 in
set_option maxRecDepth 100000 in
theorem c_X5_init {l : Launch} {D : va_G} {cA : Nat → ClassId} (h : Nat) : CV l D cA yX5_init cX5_init 1 none 1 40 [.ref h] [(h, .inr (5, [.int 0, .null, .int 0, .null]))] 1 100 (fun w => ∃ q : Nat → Nat, q 0 = h ∧ w = Tw q cA (fun _ => 0) (fun _ => 0) .null) := by
  intro sz
  refine met_start (by decide) rfl ?_
  intro p e s m args below meth c ls hsz hargs C0 hname hP hD hS hl
  generalize hAe : va_A [(h, .inr (5, [.int 0, .null, .int 0, .null]))] sz = A at C0 hD hS ⊢
  obtain ⟨hx, hb, hr, hml, hown, hts, hlk, hK, hA⟩ := id C0
  replace hl : lv_has ls 1 [(0, .ref h)] := hl
  obtain ⟨Q, hQ⟩ : ∃ Q : State → Prop, Q = QV below D A (fun w => ∃ q : Nat → Nat, q 0 = h ∧ w = Tw q cA (fun _ => 0) (fun _ => 0) .null) args s 1 100 := ⟨_, rfl⟩
  refine cast (by rw [hQ]) (?_ : W p l e (RMx 1 40 1 100) s m args below meth c s.heap [] 0 0 Q (F0 m 0 ls []))
  replace hP : va_P D vwCl (List.flatten [[(h, .inr (5, [.int 0, .null, .int 0, .null]))]]) s.heap := hP
  replace hD : va_D A (List.flatten [[(h, .inr (5, [.int 0, .null, .int 0, .null]))]]) := hD
  refine lv_aload_n hx hb dX5_init_0 rfl (lv_at hl 0 rfl) ?_
  refine W.objInit hx hb hown (hts _ m_methodLink_P_Text_3_java_lang_Object_init__V) (hts _ lk_objinit_i) (hts _ lk_objinit_c) rfl (by rw [hml]; exact hl.1) rfl dX5_init_1 (Nat.le_of_ble_eq_true rfl) (Nat.le_of_ble_eq_true rfl) ?_
  refine W.eq (g2 := F0 m 4 ls []) rfl ?_
  refine lv_aload_n hx hb dX5_init_4 rfl (lv_at hl 0 rfl) ?_
  refine lv_bipush (v := 100) hx hb dX5_init_5 (by decide) ?_
  refine newT (a0 := (100, .inl (fun _ => 0))) (N := 100) hx hb .byte (ty := .byte) rfl (hts _ m_arrayClass_Jvm_ClassFile_FieldType_byte) hK 1 rfl hP hD hS hA (fun _ => rfl) (by decide) (by decide) (by decide) (Nat.le_of_ble_eq_true rfl) (Nat.le_of_ble_eq_true rfl) dX5_init_7 (fun q1 H hP hD hS => ?_)
  replace hP : va_P D vwCl (List.flatten [[(h, .inr (5, [.int 0, .null, .int 0, .null]))], [(q1, .inl (cA 1, 100, .inl (fun _ => 0)))]]) H := va_P.snc (segs := [[(h, .inr (5, [.int 0, .null, .int 0, .null]))]]) hP
  replace hD : va_D A (List.flatten [[(h, .inr (5, [.int 0, .null, .int 0, .null]))], [(q1, .inl (cA 1, 100, .inl (fun _ => 0)))]]) := va_D.snc (segs := [[(h, .inr (5, [.int 0, .null, .int 0, .null]))]]) hD
  refine W.widen (k := 1) (n := 100) (Nat.le_of_ble_eq_true rfl) (Nat.le_of_ble_eq_true rfl) ?_
  refine va_putF (D := D) (ci := 5) (v := .ref q1) (ty := (.array .byte)) (C := RX5) (T := TX5) (N := 4) hx hb hts fw_5 tyX5 tyX5_ok nmX5 hown hK hP hD hS 0 rfl rfl 1 (by decide) (hts _ m_fieldLink_P_Text_9_P_Text_signs_aB) (fun _ h9 => h9) rfl hname rfl (by decide +kernel) rfl rfl (Nat.le_of_ble_eq_true rfl) dX5_init_9 (fun H locs hP hD hS => ?_)
  replace hP : va_P D vwCl (List.flatten [[(h, .inr (5, [.int 0, .ref q1, .int 0, .null]))], [(q1, .inl (cA 1, 100, .inl (fun _ => 0)))]]) H := hP
  replace hD : va_D A (List.flatten [[(h, .inr (5, [.int 0, .ref q1, .int 0, .null]))], [(q1, .inl (cA 1, 100, .inl (fun _ => 0)))]]) := hD
  rw [hQ]
  exact ret_v C0 hP hD hS ⟨(fun k => if k = 1 then q1 else h), rfl, rfl⟩ dX5_init_12
set_option maxHeartbeats 4000000 in
set_option maxRecDepth 100000 in
theorem c_X4_init {l : Launch} {D : va_G} {cA : Nat → ClassId} (h : Nat) : CV l D cA yX4_init cX4_init 1 none 1 40 [.ref h] [(h, .inr (4, [.int 0, .int 0, .null]))] 1 60 (fun w => ∃ q : Nat → Nat, q 0 = h ∧ w = Tp q cA (fun k => if k = 0 then -1 else 0) (fun _ => 0)) := by
  intro sz
  refine met_start (by decide) rfl ?_
  intro p e s m args below meth c ls hsz hargs C0 hname hP hD hS hl
  generalize hAe : va_A [(h, .inr (4, [.int 0, .int 0, .null]))] sz = A at C0 hD hS ⊢
  obtain ⟨hx, hb, hr, hml, hown, hts, hlk, hK, hA⟩ := id C0
  replace hl : lv_has ls 1 [(0, .ref h)] := hl
  obtain ⟨Q, hQ⟩ : ∃ Q : State → Prop, Q = QV below D A (fun w => ∃ q : Nat → Nat, q 0 = h ∧ w = Tp q cA (fun k => if k = 0 then -1 else 0) (fun _ => 0)) args s 1 60 := ⟨_, rfl⟩
  refine cast (by rw [hQ]) (?_ : W p l e (RMx 1 40 1 60) s m args below meth c s.heap [] 0 0 Q (F0 m 0 ls []))
  replace hP : va_P D vwCl (List.flatten [[(h, .inr (4, [.int 0, .int 0, .null]))]]) s.heap := hP
  replace hD : va_D A (List.flatten [[(h, .inr (4, [.int 0, .int 0, .null]))]]) := hD
  refine lv_aload_n hx hb dX4_init_0 rfl (lv_at hl 0 rfl) ?_
  refine W.objInit hx hb hown (hts _ m_methodLink_P_Tape_3_java_lang_Object_init__V) (hts _ lk_objinit_i) (hts _ lk_objinit_c) rfl (by rw [hml]; exact hl.1) rfl dX4_init_1 (Nat.le_of_ble_eq_true rfl) (Nat.le_of_ble_eq_true rfl) ?_
  refine W.eq (g2 := F0 m 4 ls []) rfl ?_
  refine lv_aload_n hx hb dX4_init_4 rfl (lv_at hl 0 rfl) ?_
  refine lv_iconst (v := (-1)) hx hb dX4_init_5 (by decide) ?_
  refine va_put (D := D) (ci := 4) (v := .int (-1)) (ty := .int) (C := RX4) (T := TX4) (N := 3) hx hb hts fw_4 tyX4 tyX4_ok nmX4 hown hK hP hD hS 0 rfl rfl 0 (by decide) (hts _ m_fieldLink_P_Tape_9_P_Tape_sort_I) (fun _ h9 => h9) rfl (by decide +kernel) rfl rfl (Nat.le_of_ble_eq_true rfl) dX4_init_6 (fun H locs hP hD hS => ?_)
  replace hP : va_P D vwCl (List.flatten [[(h, .inr (4, [.int (-1), .int 0, .null]))]]) H := hP
  replace hD : va_D A (List.flatten [[(h, .inr (4, [.int (-1), .int 0, .null]))]]) := hD
  refine lv_aload_n hx hb dX4_init_9 rfl (lv_at hl 0 rfl) ?_
  refine lv_bipush (v := 60) hx hb dX4_init_10 (by decide) ?_
  refine newT (a0 := (60, .inr (.inl (fun _ => 0)))) (N := 60) hx hb .long (ty := .long) rfl (hts _ m_arrayClass_Jvm_ClassFile_FieldType_long) hK 2 rfl hP hD hS hA (fun _ => rfl) (by decide) (by decide) (by decide) (Nat.le_of_ble_eq_true rfl) (Nat.le_of_ble_eq_true rfl) dX4_init_12 (fun q1 H hP hD hS => ?_)
  replace hP : va_P D vwCl (List.flatten [[(h, .inr (4, [.int (-1), .int 0, .null]))], [(q1, .inl (cA 2, 60, .inr (.inl (fun _ => 0))))]]) H := va_P.snc (segs := [[(h, .inr (4, [.int (-1), .int 0, .null]))]]) hP
  replace hD : va_D A (List.flatten [[(h, .inr (4, [.int (-1), .int 0, .null]))], [(q1, .inl (cA 2, 60, .inr (.inl (fun _ => 0))))]]) := va_D.snc (segs := [[(h, .inr (4, [.int (-1), .int 0, .null]))]]) hD
  refine W.widen (k := 1) (n := 60) (Nat.le_of_ble_eq_true rfl) (Nat.le_of_ble_eq_true rfl) ?_
  refine va_putF (D := D) (ci := 4) (v := .ref q1) (ty := (.array .long)) (C := RX4) (T := TX4) (N := 3) hx hb hts fw_4 tyX4 tyX4_ok nmX4 hown hK hP hD hS 0 rfl rfl 2 (by decide) (hts _ m_fieldLink_P_Tape_15_P_Tape_items_aJ) (fun _ h9 => h9) rfl hname rfl (by decide +kernel) rfl rfl (Nat.le_of_ble_eq_true rfl) dX4_init_14 (fun H locs hP hD hS => ?_)
  replace hP : va_P D vwCl (List.flatten [[(h, .inr (4, [.int (-1), .int 0, .ref q1]))], [(q1, .inl (cA 2, 60, .inr (.inl (fun _ => 0))))]]) H := hP
  replace hD : va_D A (List.flatten [[(h, .inr (4, [.int (-1), .int 0, .ref q1]))], [(q1, .inl (cA 2, 60, .inr (.inl (fun _ => 0))))]]) := hD
  rw [hQ]
  exact ret_v C0 hP hD hS ⟨(fun k => if k = 1 then q1 else h), rfl, rfl⟩ dX4_init_17
set_option maxHeartbeats 4000000 in
set_option maxRecDepth 100000 in
theorem c_X2_init {l : Launch} {D : va_G} {cA : Nat → ClassId} (h : Nat) : CV l D cA yX2_init cX2_init 1 none 1 40 [.ref h] [(h, .inr (2, [.int 0, .int 0, .int 0, .null, .null, .null, .null, .null, .null]))] 6 330 (fun w => ∃ q : Nat → Nat, q 0 = h ∧ w = Chw q cA (fun _ => 0) (fun _ _ => 0)) := by
  intro sz
  refine met_start (by decide) rfl ?_
  intro p e s m args below meth c ls hsz hargs C0 hname hP hD hS hl
  generalize hAe : va_A [(h, .inr (2, [.int 0, .int 0, .int 0, .null, .null, .null, .null, .null, .null]))] sz = A at C0 hD hS ⊢
  obtain ⟨hx, hb, hr, hml, hown, hts, hlk, hK, hA⟩ := id C0
  replace hl : lv_has ls 1 [(0, .ref h)] := hl
  obtain ⟨Q, hQ⟩ : ∃ Q : State → Prop, Q = QV below D A (fun w => ∃ q : Nat → Nat, q 0 = h ∧ w = Chw q cA (fun _ => 0) (fun _ _ => 0)) args s 6 330 := ⟨_, rfl⟩
  refine cast (by rw [hQ]) (?_ : W p l e (RMx 1 40 6 330) s m args below meth c s.heap [] 0 0 Q (F0 m 0 ls []))
  replace hP : va_P D vwCl (List.flatten [[(h, .inr (2, [.int 0, .int 0, .int 0, .null, .null, .null, .null, .null, .null]))]]) s.heap := hP
  replace hD : va_D A (List.flatten [[(h, .inr (2, [.int 0, .int 0, .int 0, .null, .null, .null, .null, .null, .null]))]]) := hD
  refine lv_aload_n hx hb dX2_init_0 rfl (lv_at hl 0 rfl) ?_
  refine W.objInit hx hb hown (hts _ m_methodLink_P_Charter_3_java_lang_Object_init__V) (hts _ lk_objinit_i) (hts _ lk_objinit_c) rfl (by rw [hml]; exact hl.1) rfl dX2_init_1 (Nat.le_of_ble_eq_true rfl) (Nat.le_of_ble_eq_true rfl) ?_
  refine W.eq (g2 := F0 m 4 ls []) rfl ?_
  refine lv_aload_n hx hb dX2_init_4 rfl (lv_at hl 0 rfl) ?_
  refine lv_bipush (v := 10) hx hb dX2_init_5 (by decide) ?_
  refine newT (a0 := (10, .inl (fun _ => 0))) (N := 10) hx hb .int (ty := .int) rfl (hts _ m_arrayClass_Jvm_ClassFile_FieldType_int) hK 0 rfl hP hD hS hA (fun _ => rfl) (by decide) (by decide) (by decide) (Nat.le_of_ble_eq_true rfl) (Nat.le_of_ble_eq_true rfl) dX2_init_7 (fun q1 H hP hD hS => ?_)
  replace hP : va_P D vwCl (List.flatten [[(h, .inr (2, [.int 0, .int 0, .int 0, .null, .null, .null, .null, .null, .null]))], [(q1, .inl (cA 0, 10, .inl (fun _ => 0)))]]) H := va_P.snc (segs := [[(h, .inr (2, [.int 0, .int 0, .int 0, .null, .null, .null, .null, .null, .null]))]]) hP
  replace hD : va_D A (List.flatten [[(h, .inr (2, [.int 0, .int 0, .int 0, .null, .null, .null, .null, .null, .null]))], [(q1, .inl (cA 0, 10, .inl (fun _ => 0)))]]) := va_D.snc (segs := [[(h, .inr (2, [.int 0, .int 0, .int 0, .null, .null, .null, .null, .null, .null]))]]) hD
  refine W.widen (k := 1) (n := 10) (Nat.le_of_ble_eq_true rfl) (Nat.le_of_ble_eq_true rfl) ?_
  refine va_putF (D := D) (ci := 2) (v := .ref q1) (ty := (.array .int)) (C := RX2) (T := TX2) (N := 9) hx hb hts fw_2 tyX2 tyX2_ok nmX2 hown hK hP hD hS 0 rfl rfl 3 (by decide) (hts _ m_fieldLink_P_Charter_9_P_Charter_sort_aI) (fun _ h9 => h9) rfl hname rfl (by decide +kernel) rfl rfl (Nat.le_of_ble_eq_true rfl) dX2_init_9 (fun H locs hP hD hS => ?_)
  replace hP : va_P D vwCl (List.flatten [[(h, .inr (2, [.int 0, .int 0, .int 0, .ref q1, .null, .null, .null, .null, .null]))], [(q1, .inl (cA 0, 10, .inl (fun _ => 0)))]]) H := hP
  replace hD : va_D A (List.flatten [[(h, .inr (2, [.int 0, .int 0, .int 0, .ref q1, .null, .null, .null, .null, .null]))], [(q1, .inl (cA 0, 10, .inl (fun _ => 0)))]]) := hD
  refine lv_aload_n hx hb dX2_init_12 rfl (lv_at hl 0 rfl) ?_
  refine lv_bipush (v := 10) hx hb dX2_init_13 (by decide) ?_
  refine newT (a0 := (10, .inl (fun _ => 0))) (N := 10) hx hb .int (ty := .int) rfl (hts _ m_arrayClass_Jvm_ClassFile_FieldType_int) hK 0 rfl hP hD hS hA (fun _ => rfl) (by decide) (by decide) (by decide) (Nat.le_of_ble_eq_true rfl) (Nat.le_of_ble_eq_true rfl) dX2_init_15 (fun q2 H hP hD hS => ?_)
  replace hP : va_P D vwCl (List.flatten [[(h, .inr (2, [.int 0, .int 0, .int 0, .ref q1, .null, .null, .null, .null, .null]))], [(q1, .inl (cA 0, 10, .inl (fun _ => 0)))], [(q2, .inl (cA 0, 10, .inl (fun _ => 0)))]]) H := va_P.snc (segs := [[(h, .inr (2, [.int 0, .int 0, .int 0, .ref q1, .null, .null, .null, .null, .null]))], [(q1, .inl (cA 0, 10, .inl (fun _ => 0)))]]) hP
  replace hD : va_D A (List.flatten [[(h, .inr (2, [.int 0, .int 0, .int 0, .ref q1, .null, .null, .null, .null, .null]))], [(q1, .inl (cA 0, 10, .inl (fun _ => 0)))], [(q2, .inl (cA 0, 10, .inl (fun _ => 0)))]]) := va_D.snc (segs := [[(h, .inr (2, [.int 0, .int 0, .int 0, .ref q1, .null, .null, .null, .null, .null]))], [(q1, .inl (cA 0, 10, .inl (fun _ => 0)))]]) hD
  refine W.widen (k := 2) (n := 20) (Nat.le_of_ble_eq_true rfl) (Nat.le_of_ble_eq_true rfl) ?_
  refine va_putF (D := D) (ci := 2) (v := .ref q2) (ty := (.array .int)) (C := RX2) (T := TX2) (N := 9) hx hb hts fw_2 tyX2 tyX2_ok nmX2 hown hK hP hD hS 0 rfl rfl 4 (by decide) (hts _ m_fieldLink_P_Charter_15_P_Charter_number_aI) (fun _ h9 => h9) rfl hname rfl (by decide +kernel) rfl rfl (Nat.le_of_ble_eq_true rfl) dX2_init_17 (fun H locs hP hD hS => ?_)
  replace hP : va_P D vwCl (List.flatten [[(h, .inr (2, [.int 0, .int 0, .int 0, .ref q1, .ref q2, .null, .null, .null, .null]))], [(q1, .inl (cA 0, 10, .inl (fun _ => 0)))], [(q2, .inl (cA 0, 10, .inl (fun _ => 0)))]]) H := hP
  replace hD : va_D A (List.flatten [[(h, .inr (2, [.int 0, .int 0, .int 0, .ref q1, .ref q2, .null, .null, .null, .null]))], [(q1, .inl (cA 0, 10, .inl (fun _ => 0)))], [(q2, .inl (cA 0, 10, .inl (fun _ => 0)))]]) := hD
  refine lv_aload_n hx hb dX2_init_20 rfl (lv_at hl 0 rfl) ?_
  refine lv_bipush (v := 10) hx hb dX2_init_21 (by decide) ?_
  refine newT (a0 := (10, .inl (fun _ => 0))) (N := 10) hx hb .int (ty := .int) rfl (hts _ m_arrayClass_Jvm_ClassFile_FieldType_int) hK 0 rfl hP hD hS hA (fun _ => rfl) (by decide) (by decide) (by decide) (Nat.le_of_ble_eq_true rfl) (Nat.le_of_ble_eq_true rfl) dX2_init_23 (fun q3 H hP hD hS => ?_)
  replace hP : va_P D vwCl (List.flatten [[(h, .inr (2, [.int 0, .int 0, .int 0, .ref q1, .ref q2, .null, .null, .null, .null]))], [(q1, .inl (cA 0, 10, .inl (fun _ => 0)))], [(q2, .inl (cA 0, 10, .inl (fun _ => 0)))], [(q3, .inl (cA 0, 10, .inl (fun _ => 0)))]]) H := va_P.snc (segs := [[(h, .inr (2, [.int 0, .int 0, .int 0, .ref q1, .ref q2, .null, .null, .null, .null]))], [(q1, .inl (cA 0, 10, .inl (fun _ => 0)))], [(q2, .inl (cA 0, 10, .inl (fun _ => 0)))]]) hP
  replace hD : va_D A (List.flatten [[(h, .inr (2, [.int 0, .int 0, .int 0, .ref q1, .ref q2, .null, .null, .null, .null]))], [(q1, .inl (cA 0, 10, .inl (fun _ => 0)))], [(q2, .inl (cA 0, 10, .inl (fun _ => 0)))], [(q3, .inl (cA 0, 10, .inl (fun _ => 0)))]]) := va_D.snc (segs := [[(h, .inr (2, [.int 0, .int 0, .int 0, .ref q1, .ref q2, .null, .null, .null, .null]))], [(q1, .inl (cA 0, 10, .inl (fun _ => 0)))], [(q2, .inl (cA 0, 10, .inl (fun _ => 0)))]]) hD
  refine W.widen (k := 3) (n := 30) (Nat.le_of_ble_eq_true rfl) (Nat.le_of_ble_eq_true rfl) ?_
  refine va_putF (D := D) (ci := 2) (v := .ref q3) (ty := (.array .int)) (C := RX2) (T := TX2) (N := 9) hx hb hts fw_2 tyX2 tyX2_ok nmX2 hown hK hP hD hS 0 rfl rfl 5 (by decide) (hts _ m_fieldLink_P_Charter_18_P_Charter_end_aI) (fun _ h9 => h9) rfl hname rfl (by decide +kernel) rfl rfl (Nat.le_of_ble_eq_true rfl) dX2_init_25 (fun H locs hP hD hS => ?_)
  replace hP : va_P D vwCl (List.flatten [[(h, .inr (2, [.int 0, .int 0, .int 0, .ref q1, .ref q2, .ref q3, .null, .null, .null]))], [(q1, .inl (cA 0, 10, .inl (fun _ => 0)))], [(q2, .inl (cA 0, 10, .inl (fun _ => 0)))], [(q3, .inl (cA 0, 10, .inl (fun _ => 0)))]]) H := hP
  replace hD : va_D A (List.flatten [[(h, .inr (2, [.int 0, .int 0, .int 0, .ref q1, .ref q2, .ref q3, .null, .null, .null]))], [(q1, .inl (cA 0, 10, .inl (fun _ => 0)))], [(q2, .inl (cA 0, 10, .inl (fun _ => 0)))], [(q3, .inl (cA 0, 10, .inl (fun _ => 0)))]]) := hD
  refine lv_aload_n hx hb dX2_init_28 rfl (lv_at hl 0 rfl) ?_
  refine lv_bipush (v := 100) hx hb dX2_init_29 (by decide) ?_
  refine newT (a0 := (100, .inl (fun _ => 0))) (N := 100) hx hb .int (ty := .int) rfl (hts _ m_arrayClass_Jvm_ClassFile_FieldType_int) hK 0 rfl hP hD hS hA (fun _ => rfl) (by decide) (by decide) (by decide) (Nat.le_of_ble_eq_true rfl) (Nat.le_of_ble_eq_true rfl) dX2_init_31 (fun q4 H hP hD hS => ?_)
  replace hP : va_P D vwCl (List.flatten [[(h, .inr (2, [.int 0, .int 0, .int 0, .ref q1, .ref q2, .ref q3, .null, .null, .null]))], [(q1, .inl (cA 0, 10, .inl (fun _ => 0)))], [(q2, .inl (cA 0, 10, .inl (fun _ => 0)))], [(q3, .inl (cA 0, 10, .inl (fun _ => 0)))], [(q4, .inl (cA 0, 100, .inl (fun _ => 0)))]]) H := va_P.snc (segs := [[(h, .inr (2, [.int 0, .int 0, .int 0, .ref q1, .ref q2, .ref q3, .null, .null, .null]))], [(q1, .inl (cA 0, 10, .inl (fun _ => 0)))], [(q2, .inl (cA 0, 10, .inl (fun _ => 0)))], [(q3, .inl (cA 0, 10, .inl (fun _ => 0)))]]) hP
  replace hD : va_D A (List.flatten [[(h, .inr (2, [.int 0, .int 0, .int 0, .ref q1, .ref q2, .ref q3, .null, .null, .null]))], [(q1, .inl (cA 0, 10, .inl (fun _ => 0)))], [(q2, .inl (cA 0, 10, .inl (fun _ => 0)))], [(q3, .inl (cA 0, 10, .inl (fun _ => 0)))], [(q4, .inl (cA 0, 100, .inl (fun _ => 0)))]]) := va_D.snc (segs := [[(h, .inr (2, [.int 0, .int 0, .int 0, .ref q1, .ref q2, .ref q3, .null, .null, .null]))], [(q1, .inl (cA 0, 10, .inl (fun _ => 0)))], [(q2, .inl (cA 0, 10, .inl (fun _ => 0)))], [(q3, .inl (cA 0, 10, .inl (fun _ => 0)))]]) hD
  refine W.widen (k := 4) (n := 130) (Nat.le_of_ble_eq_true rfl) (Nat.le_of_ble_eq_true rfl) ?_
  refine va_putF (D := D) (ci := 2) (v := .ref q4) (ty := (.array .int)) (C := RX2) (T := TX2) (N := 9) hx hb hts fw_2 tyX2 tyX2_ok nmX2 hown hK hP hD hS 0 rfl rfl 6 (by decide) (hts _ m_fieldLink_P_Charter_21_P_Charter_does_aI) (fun _ h9 => h9) rfl hname rfl (by decide +kernel) rfl rfl (Nat.le_of_ble_eq_true rfl) dX2_init_33 (fun H locs hP hD hS => ?_)
  replace hP : va_P D vwCl (List.flatten [[(h, .inr (2, [.int 0, .int 0, .int 0, .ref q1, .ref q2, .ref q3, .ref q4, .null, .null]))], [(q1, .inl (cA 0, 10, .inl (fun _ => 0)))], [(q2, .inl (cA 0, 10, .inl (fun _ => 0)))], [(q3, .inl (cA 0, 10, .inl (fun _ => 0)))], [(q4, .inl (cA 0, 100, .inl (fun _ => 0)))]]) H := hP
  replace hD : va_D A (List.flatten [[(h, .inr (2, [.int 0, .int 0, .int 0, .ref q1, .ref q2, .ref q3, .ref q4, .null, .null]))], [(q1, .inl (cA 0, 10, .inl (fun _ => 0)))], [(q2, .inl (cA 0, 10, .inl (fun _ => 0)))], [(q3, .inl (cA 0, 10, .inl (fun _ => 0)))], [(q4, .inl (cA 0, 100, .inl (fun _ => 0)))]]) := hD
  refine lv_aload_n hx hb dX2_init_36 rfl (lv_at hl 0 rfl) ?_
  refine lv_bipush (v := 100) hx hb dX2_init_37 (by decide) ?_
  refine newT (a0 := (100, .inl (fun _ => 0))) (N := 100) hx hb .int (ty := .int) rfl (hts _ m_arrayClass_Jvm_ClassFile_FieldType_int) hK 0 rfl hP hD hS hA (fun _ => rfl) (by decide) (by decide) (by decide) (Nat.le_of_ble_eq_true rfl) (Nat.le_of_ble_eq_true rfl) dX2_init_39 (fun q5 H hP hD hS => ?_)
  replace hP : va_P D vwCl (List.flatten [[(h, .inr (2, [.int 0, .int 0, .int 0, .ref q1, .ref q2, .ref q3, .ref q4, .null, .null]))], [(q1, .inl (cA 0, 10, .inl (fun _ => 0)))], [(q2, .inl (cA 0, 10, .inl (fun _ => 0)))], [(q3, .inl (cA 0, 10, .inl (fun _ => 0)))], [(q4, .inl (cA 0, 100, .inl (fun _ => 0)))], [(q5, .inl (cA 0, 100, .inl (fun _ => 0)))]]) H := va_P.snc (segs := [[(h, .inr (2, [.int 0, .int 0, .int 0, .ref q1, .ref q2, .ref q3, .ref q4, .null, .null]))], [(q1, .inl (cA 0, 10, .inl (fun _ => 0)))], [(q2, .inl (cA 0, 10, .inl (fun _ => 0)))], [(q3, .inl (cA 0, 10, .inl (fun _ => 0)))], [(q4, .inl (cA 0, 100, .inl (fun _ => 0)))]]) hP
  replace hD : va_D A (List.flatten [[(h, .inr (2, [.int 0, .int 0, .int 0, .ref q1, .ref q2, .ref q3, .ref q4, .null, .null]))], [(q1, .inl (cA 0, 10, .inl (fun _ => 0)))], [(q2, .inl (cA 0, 10, .inl (fun _ => 0)))], [(q3, .inl (cA 0, 10, .inl (fun _ => 0)))], [(q4, .inl (cA 0, 100, .inl (fun _ => 0)))], [(q5, .inl (cA 0, 100, .inl (fun _ => 0)))]]) := va_D.snc (segs := [[(h, .inr (2, [.int 0, .int 0, .int 0, .ref q1, .ref q2, .ref q3, .ref q4, .null, .null]))], [(q1, .inl (cA 0, 10, .inl (fun _ => 0)))], [(q2, .inl (cA 0, 10, .inl (fun _ => 0)))], [(q3, .inl (cA 0, 10, .inl (fun _ => 0)))], [(q4, .inl (cA 0, 100, .inl (fun _ => 0)))]]) hD
  refine W.widen (k := 5) (n := 230) (Nat.le_of_ble_eq_true rfl) (Nat.le_of_ble_eq_true rfl) ?_
  refine va_putF (D := D) (ci := 2) (v := .ref q5) (ty := (.array .int)) (C := RX2) (T := TX2) (N := 9) hx hb hts fw_2 tyX2 tyX2_ok nmX2 hown hK hP hD hS 0 rfl rfl 7 (by decide) (hts _ m_fieldLink_P_Charter_24_P_Charter_low_aI) (fun _ h9 => h9) rfl hname rfl (by decide +kernel) rfl rfl (Nat.le_of_ble_eq_true rfl) dX2_init_41 (fun H locs hP hD hS => ?_)
  replace hP : va_P D vwCl (List.flatten [[(h, .inr (2, [.int 0, .int 0, .int 0, .ref q1, .ref q2, .ref q3, .ref q4, .ref q5, .null]))], [(q1, .inl (cA 0, 10, .inl (fun _ => 0)))], [(q2, .inl (cA 0, 10, .inl (fun _ => 0)))], [(q3, .inl (cA 0, 10, .inl (fun _ => 0)))], [(q4, .inl (cA 0, 100, .inl (fun _ => 0)))], [(q5, .inl (cA 0, 100, .inl (fun _ => 0)))]]) H := hP
  replace hD : va_D A (List.flatten [[(h, .inr (2, [.int 0, .int 0, .int 0, .ref q1, .ref q2, .ref q3, .ref q4, .ref q5, .null]))], [(q1, .inl (cA 0, 10, .inl (fun _ => 0)))], [(q2, .inl (cA 0, 10, .inl (fun _ => 0)))], [(q3, .inl (cA 0, 10, .inl (fun _ => 0)))], [(q4, .inl (cA 0, 100, .inl (fun _ => 0)))], [(q5, .inl (cA 0, 100, .inl (fun _ => 0)))]]) := hD
  refine lv_aload_n hx hb dX2_init_44 rfl (lv_at hl 0 rfl) ?_
  refine lv_bipush (v := 100) hx hb dX2_init_45 (by decide) ?_
  refine newT (a0 := (100, .inl (fun _ => 0))) (N := 100) hx hb .int (ty := .int) rfl (hts _ m_arrayClass_Jvm_ClassFile_FieldType_int) hK 0 rfl hP hD hS hA (fun _ => rfl) (by decide) (by decide) (by decide) (Nat.le_of_ble_eq_true rfl) (Nat.le_of_ble_eq_true rfl) dX2_init_47 (fun q6 H hP hD hS => ?_)
  replace hP : va_P D vwCl (List.flatten [[(h, .inr (2, [.int 0, .int 0, .int 0, .ref q1, .ref q2, .ref q3, .ref q4, .ref q5, .null]))], [(q1, .inl (cA 0, 10, .inl (fun _ => 0)))], [(q2, .inl (cA 0, 10, .inl (fun _ => 0)))], [(q3, .inl (cA 0, 10, .inl (fun _ => 0)))], [(q4, .inl (cA 0, 100, .inl (fun _ => 0)))], [(q5, .inl (cA 0, 100, .inl (fun _ => 0)))], [(q6, .inl (cA 0, 100, .inl (fun _ => 0)))]]) H := va_P.snc (segs := [[(h, .inr (2, [.int 0, .int 0, .int 0, .ref q1, .ref q2, .ref q3, .ref q4, .ref q5, .null]))], [(q1, .inl (cA 0, 10, .inl (fun _ => 0)))], [(q2, .inl (cA 0, 10, .inl (fun _ => 0)))], [(q3, .inl (cA 0, 10, .inl (fun _ => 0)))], [(q4, .inl (cA 0, 100, .inl (fun _ => 0)))], [(q5, .inl (cA 0, 100, .inl (fun _ => 0)))]]) hP
  replace hD : va_D A (List.flatten [[(h, .inr (2, [.int 0, .int 0, .int 0, .ref q1, .ref q2, .ref q3, .ref q4, .ref q5, .null]))], [(q1, .inl (cA 0, 10, .inl (fun _ => 0)))], [(q2, .inl (cA 0, 10, .inl (fun _ => 0)))], [(q3, .inl (cA 0, 10, .inl (fun _ => 0)))], [(q4, .inl (cA 0, 100, .inl (fun _ => 0)))], [(q5, .inl (cA 0, 100, .inl (fun _ => 0)))], [(q6, .inl (cA 0, 100, .inl (fun _ => 0)))]]) := va_D.snc (segs := [[(h, .inr (2, [.int 0, .int 0, .int 0, .ref q1, .ref q2, .ref q3, .ref q4, .ref q5, .null]))], [(q1, .inl (cA 0, 10, .inl (fun _ => 0)))], [(q2, .inl (cA 0, 10, .inl (fun _ => 0)))], [(q3, .inl (cA 0, 10, .inl (fun _ => 0)))], [(q4, .inl (cA 0, 100, .inl (fun _ => 0)))], [(q5, .inl (cA 0, 100, .inl (fun _ => 0)))]]) hD
  refine W.widen (k := 6) (n := 330) (Nat.le_of_ble_eq_true rfl) (Nat.le_of_ble_eq_true rfl) ?_
  refine va_putF (D := D) (ci := 2) (v := .ref q6) (ty := (.array .int)) (C := RX2) (T := TX2) (N := 9) hx hb hts fw_2 tyX2 tyX2_ok nmX2 hown hK hP hD hS 0 rfl rfl 8 (by decide) (hts _ m_fieldLink_P_Charter_27_P_Charter_high_aI) (fun _ h9 => h9) rfl hname rfl (by decide +kernel) rfl rfl (Nat.le_of_ble_eq_true rfl) dX2_init_49 (fun H locs hP hD hS => ?_)
  replace hP : va_P D vwCl (List.flatten [[(h, .inr (2, [.int 0, .int 0, .int 0, .ref q1, .ref q2, .ref q3, .ref q4, .ref q5, .ref q6]))], [(q1, .inl (cA 0, 10, .inl (fun _ => 0)))], [(q2, .inl (cA 0, 10, .inl (fun _ => 0)))], [(q3, .inl (cA 0, 10, .inl (fun _ => 0)))], [(q4, .inl (cA 0, 100, .inl (fun _ => 0)))], [(q5, .inl (cA 0, 100, .inl (fun _ => 0)))], [(q6, .inl (cA 0, 100, .inl (fun _ => 0)))]]) H := hP
  replace hD : va_D A (List.flatten [[(h, .inr (2, [.int 0, .int 0, .int 0, .ref q1, .ref q2, .ref q3, .ref q4, .ref q5, .ref q6]))], [(q1, .inl (cA 0, 10, .inl (fun _ => 0)))], [(q2, .inl (cA 0, 10, .inl (fun _ => 0)))], [(q3, .inl (cA 0, 10, .inl (fun _ => 0)))], [(q4, .inl (cA 0, 100, .inl (fun _ => 0)))], [(q5, .inl (cA 0, 100, .inl (fun _ => 0)))], [(q6, .inl (cA 0, 100, .inl (fun _ => 0)))]]) := hD
  rw [hQ]
  exact ret_v C0 hP hD hS ⟨(fun k => if k = 3 then q1 else if k = 4 then q2 else if k = 5 then q3 else if k = 6 then q4 else if k = 7 then q5 else if k = 8 then q6 else h), rfl, rfl⟩ dX2_init_52
set_option maxHeartbeats 4000000 in
set_option maxRecDepth 100000 in
theorem c_X3_init_5 {l : Launch} {D : va_G} {cA : Nat → ClassId} (h : Nat) : CV l D cA yX3_init cX3_init 2 none 1 40 [.ref h, .int 5] [(h, .inr (3, [.int 0, .null, .null]))] 2 10 (fun w => ∃ x y : Nat, w = Rw h x y cA 5 0 (fun _ => 0) (fun _ => 0)) := by
  intro sz
  refine met_start (by decide) rfl ?_
  intro p e s m args below meth c ls hsz hargs C0 hname hP hD hS hl
  generalize hAe : va_A [(h, .inr (3, [.int 0, .null, .null]))] sz = A at C0 hD hS ⊢
  obtain ⟨hx, hb, hr, hml, hown, hts, hlk, hK, hA⟩ := id C0
  replace hl : lv_has ls 2 [(0, .ref h), (1, .int 5)] := hl
  obtain ⟨Q, hQ⟩ : ∃ Q : State → Prop, Q = QV below D A (fun w => ∃ x y : Nat, w = Rw h x y cA 5 0 (fun _ => 0) (fun _ => 0)) args s 2 10 := ⟨_, rfl⟩
  refine cast (by rw [hQ]) (?_ : W p l e (RMx 1 40 2 10) s m args below meth c s.heap [] 0 0 Q (F0 m 0 ls []))
  replace hP : va_P D vwCl (List.flatten [[(h, .inr (3, [.int 0, .null, .null]))]]) s.heap := hP
  replace hD : va_D A (List.flatten [[(h, .inr (3, [.int 0, .null, .null]))]]) := hD
  refine lv_aload_n hx hb dX3_init_0 rfl (lv_at hl 0 rfl) ?_
  refine W.objInit hx hb hown (hts _ m_methodLink_P_Rows_1_java_lang_Object_init__V) (hts _ lk_objinit_i) (hts _ lk_objinit_c) rfl (by rw [hml]; exact hl.1) rfl dX3_init_1 (Nat.le_of_ble_eq_true rfl) (Nat.le_of_ble_eq_true rfl) ?_
  refine W.eq (g2 := F0 m 4 ls []) rfl ?_
  refine lv_aload_n hx hb dX3_init_4 rfl (lv_at hl 0 rfl) ?_
  refine lv_iload_n hx hb dX3_init_5 rfl (lv_at hl 1 rfl) ?_
  refine newT (a0 := (5, .inl (fun _ => 0))) (N := 5) hx hb .int (ty := .int) rfl (hts _ m_arrayClass_Jvm_ClassFile_FieldType_int) hK 0 rfl hP hD hS hA (fun _ => rfl) (by decide) (by decide) (by decide) (Nat.le_of_ble_eq_true rfl) (Nat.le_of_ble_eq_true rfl) dX3_init_6 (fun q1 H hP hD hS => ?_)
  replace hP : va_P D vwCl (List.flatten [[(h, .inr (3, [.int 0, .null, .null]))], [(q1, .inl (cA 0, 5, .inl (fun _ => 0)))]]) H := va_P.snc (segs := [[(h, .inr (3, [.int 0, .null, .null]))]]) hP
  replace hD : va_D A (List.flatten [[(h, .inr (3, [.int 0, .null, .null]))], [(q1, .inl (cA 0, 5, .inl (fun _ => 0)))]]) := va_D.snc (segs := [[(h, .inr (3, [.int 0, .null, .null]))]]) hD
  refine W.widen (k := 1) (n := 5) (Nat.le_of_ble_eq_true rfl) (Nat.le_of_ble_eq_true rfl) ?_
  refine va_putF (D := D) (ci := 3) (v := .ref q1) (ty := (.array .int)) (C := RX3) (T := TX3) (N := 3) hx hb hts fw_3 tyX3 tyX3_ok nmX3 hown hK hP hD hS 0 rfl rfl 1 (by decide) (hts _ m_fieldLink_P_Rows_7_P_Rows_first_aI) (fun _ h9 => h9) rfl hname rfl (by decide +kernel) rfl rfl (Nat.le_of_ble_eq_true rfl) dX3_init_8 (fun H locs hP hD hS => ?_)
  replace hP : va_P D vwCl (List.flatten [[(h, .inr (3, [.int 0, .ref q1, .null]))], [(q1, .inl (cA 0, 5, .inl (fun _ => 0)))]]) H := hP
  replace hD : va_D A (List.flatten [[(h, .inr (3, [.int 0, .ref q1, .null]))], [(q1, .inl (cA 0, 5, .inl (fun _ => 0)))]]) := hD
  refine lv_aload_n hx hb dX3_init_11 rfl (lv_at hl 0 rfl) ?_
  refine lv_iload_n hx hb dX3_init_12 rfl (lv_at hl 1 rfl) ?_
  refine newT (a0 := (5, .inl (fun _ => 0))) (N := 5) hx hb .int (ty := .int) rfl (hts _ m_arrayClass_Jvm_ClassFile_FieldType_int) hK 0 rfl hP hD hS hA (fun _ => rfl) (by decide) (by decide) (by decide) (Nat.le_of_ble_eq_true rfl) (Nat.le_of_ble_eq_true rfl) dX3_init_13 (fun q2 H hP hD hS => ?_)
  replace hP : va_P D vwCl (List.flatten [[(h, .inr (3, [.int 0, .ref q1, .null]))], [(q1, .inl (cA 0, 5, .inl (fun _ => 0)))], [(q2, .inl (cA 0, 5, .inl (fun _ => 0)))]]) H := va_P.snc (segs := [[(h, .inr (3, [.int 0, .ref q1, .null]))], [(q1, .inl (cA 0, 5, .inl (fun _ => 0)))]]) hP
  replace hD : va_D A (List.flatten [[(h, .inr (3, [.int 0, .ref q1, .null]))], [(q1, .inl (cA 0, 5, .inl (fun _ => 0)))], [(q2, .inl (cA 0, 5, .inl (fun _ => 0)))]]) := va_D.snc (segs := [[(h, .inr (3, [.int 0, .ref q1, .null]))], [(q1, .inl (cA 0, 5, .inl (fun _ => 0)))]]) hD
  refine W.widen (k := 2) (n := 10) (Nat.le_of_ble_eq_true rfl) (Nat.le_of_ble_eq_true rfl) ?_
  refine va_putF (D := D) (ci := 3) (v := .ref q2) (ty := (.array .int)) (C := RX3) (T := TX3) (N := 3) hx hb hts fw_3 tyX3 tyX3_ok nmX3 hown hK hP hD hS 0 rfl rfl 2 (by decide) (hts _ m_fieldLink_P_Rows_13_P_Rows_second_aI) (fun _ h9 => h9) rfl hname rfl (by decide +kernel) rfl rfl (Nat.le_of_ble_eq_true rfl) dX3_init_15 (fun H locs hP hD hS => ?_)
  replace hP : va_P D vwCl (List.flatten [[(h, .inr (3, [.int 0, .ref q1, .ref q2]))], [(q1, .inl (cA 0, 5, .inl (fun _ => 0)))], [(q2, .inl (cA 0, 5, .inl (fun _ => 0)))]]) H := hP
  replace hD : va_D A (List.flatten [[(h, .inr (3, [.int 0, .ref q1, .ref q2]))], [(q1, .inl (cA 0, 5, .inl (fun _ => 0)))], [(q2, .inl (cA 0, 5, .inl (fun _ => 0)))]]) := hD
  rw [hQ]
  exact ret_v C0 hP hD hS ⟨q1, q2, rfl⟩ dX3_init_18
set_option maxHeartbeats 4000000 in
set_option maxRecDepth 100000 in
theorem c_X3_init_10 {l : Launch} {D : va_G} {cA : Nat → ClassId} (h : Nat) : CV l D cA yX3_init cX3_init 2 none 1 40 [.ref h, .int 10] [(h, .inr (3, [.int 0, .null, .null]))] 2 20 (fun w => ∃ x y : Nat, w = Rw h x y cA 10 0 (fun _ => 0) (fun _ => 0)) := by
  intro sz
  refine met_start (by decide) rfl ?_
  intro p e s m args below meth c ls hsz hargs C0 hname hP hD hS hl
  generalize hAe : va_A [(h, .inr (3, [.int 0, .null, .null]))] sz = A at C0 hD hS ⊢
  obtain ⟨hx, hb, hr, hml, hown, hts, hlk, hK, hA⟩ := id C0
  replace hl : lv_has ls 2 [(0, .ref h), (1, .int 10)] := hl
  obtain ⟨Q, hQ⟩ : ∃ Q : State → Prop, Q = QV below D A (fun w => ∃ x y : Nat, w = Rw h x y cA 10 0 (fun _ => 0) (fun _ => 0)) args s 2 20 := ⟨_, rfl⟩
  refine cast (by rw [hQ]) (?_ : W p l e (RMx 1 40 2 20) s m args below meth c s.heap [] 0 0 Q (F0 m 0 ls []))
  replace hP : va_P D vwCl (List.flatten [[(h, .inr (3, [.int 0, .null, .null]))]]) s.heap := hP
  replace hD : va_D A (List.flatten [[(h, .inr (3, [.int 0, .null, .null]))]]) := hD
  refine lv_aload_n hx hb dX3_init_0 rfl (lv_at hl 0 rfl) ?_
  refine W.objInit hx hb hown (hts _ m_methodLink_P_Rows_1_java_lang_Object_init__V) (hts _ lk_objinit_i) (hts _ lk_objinit_c) rfl (by rw [hml]; exact hl.1) rfl dX3_init_1 (Nat.le_of_ble_eq_true rfl) (Nat.le_of_ble_eq_true rfl) ?_
  refine W.eq (g2 := F0 m 4 ls []) rfl ?_
  refine lv_aload_n hx hb dX3_init_4 rfl (lv_at hl 0 rfl) ?_
  refine lv_iload_n hx hb dX3_init_5 rfl (lv_at hl 1 rfl) ?_
  refine newT (a0 := (10, .inl (fun _ => 0))) (N := 10) hx hb .int (ty := .int) rfl (hts _ m_arrayClass_Jvm_ClassFile_FieldType_int) hK 0 rfl hP hD hS hA (fun _ => rfl) (by decide) (by decide) (by decide) (Nat.le_of_ble_eq_true rfl) (Nat.le_of_ble_eq_true rfl) dX3_init_6 (fun q1 H hP hD hS => ?_)
  replace hP : va_P D vwCl (List.flatten [[(h, .inr (3, [.int 0, .null, .null]))], [(q1, .inl (cA 0, 10, .inl (fun _ => 0)))]]) H := va_P.snc (segs := [[(h, .inr (3, [.int 0, .null, .null]))]]) hP
  replace hD : va_D A (List.flatten [[(h, .inr (3, [.int 0, .null, .null]))], [(q1, .inl (cA 0, 10, .inl (fun _ => 0)))]]) := va_D.snc (segs := [[(h, .inr (3, [.int 0, .null, .null]))]]) hD
  refine W.widen (k := 1) (n := 10) (Nat.le_of_ble_eq_true rfl) (Nat.le_of_ble_eq_true rfl) ?_
  refine va_putF (D := D) (ci := 3) (v := .ref q1) (ty := (.array .int)) (C := RX3) (T := TX3) (N := 3) hx hb hts fw_3 tyX3 tyX3_ok nmX3 hown hK hP hD hS 0 rfl rfl 1 (by decide) (hts _ m_fieldLink_P_Rows_7_P_Rows_first_aI) (fun _ h9 => h9) rfl hname rfl (by decide +kernel) rfl rfl (Nat.le_of_ble_eq_true rfl) dX3_init_8 (fun H locs hP hD hS => ?_)
  replace hP : va_P D vwCl (List.flatten [[(h, .inr (3, [.int 0, .ref q1, .null]))], [(q1, .inl (cA 0, 10, .inl (fun _ => 0)))]]) H := hP
  replace hD : va_D A (List.flatten [[(h, .inr (3, [.int 0, .ref q1, .null]))], [(q1, .inl (cA 0, 10, .inl (fun _ => 0)))]]) := hD
  refine lv_aload_n hx hb dX3_init_11 rfl (lv_at hl 0 rfl) ?_
  refine lv_iload_n hx hb dX3_init_12 rfl (lv_at hl 1 rfl) ?_
  refine newT (a0 := (10, .inl (fun _ => 0))) (N := 10) hx hb .int (ty := .int) rfl (hts _ m_arrayClass_Jvm_ClassFile_FieldType_int) hK 0 rfl hP hD hS hA (fun _ => rfl) (by decide) (by decide) (by decide) (Nat.le_of_ble_eq_true rfl) (Nat.le_of_ble_eq_true rfl) dX3_init_13 (fun q2 H hP hD hS => ?_)
  replace hP : va_P D vwCl (List.flatten [[(h, .inr (3, [.int 0, .ref q1, .null]))], [(q1, .inl (cA 0, 10, .inl (fun _ => 0)))], [(q2, .inl (cA 0, 10, .inl (fun _ => 0)))]]) H := va_P.snc (segs := [[(h, .inr (3, [.int 0, .ref q1, .null]))], [(q1, .inl (cA 0, 10, .inl (fun _ => 0)))]]) hP
  replace hD : va_D A (List.flatten [[(h, .inr (3, [.int 0, .ref q1, .null]))], [(q1, .inl (cA 0, 10, .inl (fun _ => 0)))], [(q2, .inl (cA 0, 10, .inl (fun _ => 0)))]]) := va_D.snc (segs := [[(h, .inr (3, [.int 0, .ref q1, .null]))], [(q1, .inl (cA 0, 10, .inl (fun _ => 0)))]]) hD
  refine W.widen (k := 2) (n := 20) (Nat.le_of_ble_eq_true rfl) (Nat.le_of_ble_eq_true rfl) ?_
  refine va_putF (D := D) (ci := 3) (v := .ref q2) (ty := (.array .int)) (C := RX3) (T := TX3) (N := 3) hx hb hts fw_3 tyX3 tyX3_ok nmX3 hown hK hP hD hS 0 rfl rfl 2 (by decide) (hts _ m_fieldLink_P_Rows_13_P_Rows_second_aI) (fun _ h9 => h9) rfl hname rfl (by decide +kernel) rfl rfl (Nat.le_of_ble_eq_true rfl) dX3_init_15 (fun H locs hP hD hS => ?_)
  replace hP : va_P D vwCl (List.flatten [[(h, .inr (3, [.int 0, .ref q1, .ref q2]))], [(q1, .inl (cA 0, 10, .inl (fun _ => 0)))], [(q2, .inl (cA 0, 10, .inl (fun _ => 0)))]]) H := hP
  replace hD : va_D A (List.flatten [[(h, .inr (3, [.int 0, .ref q1, .ref q2]))], [(q1, .inl (cA 0, 10, .inl (fun _ => 0)))], [(q2, .inl (cA 0, 10, .inl (fun _ => 0)))]]) := hD
  rw [hQ]
  exact ret_v C0 hP hD hS ⟨q1, q2, rfl⟩ dX3_init_18
set_option maxHeartbeats 4000000 in
set_option maxRecDepth 100000 in
theorem c_X3_init_8 {l : Launch} {D : va_G} {cA : Nat → ClassId} (h : Nat) : CV l D cA yX3_init cX3_init 2 none 1 40 [.ref h, .int 8] [(h, .inr (3, [.int 0, .null, .null]))] 2 16 (fun w => ∃ x y : Nat, w = Rw h x y cA 8 0 (fun _ => 0) (fun _ => 0)) := by
  intro sz
  refine met_start (by decide) rfl ?_
  intro p e s m args below meth c ls hsz hargs C0 hname hP hD hS hl
  generalize hAe : va_A [(h, .inr (3, [.int 0, .null, .null]))] sz = A at C0 hD hS ⊢
  obtain ⟨hx, hb, hr, hml, hown, hts, hlk, hK, hA⟩ := id C0
  replace hl : lv_has ls 2 [(0, .ref h), (1, .int 8)] := hl
  obtain ⟨Q, hQ⟩ : ∃ Q : State → Prop, Q = QV below D A (fun w => ∃ x y : Nat, w = Rw h x y cA 8 0 (fun _ => 0) (fun _ => 0)) args s 2 16 := ⟨_, rfl⟩
  refine cast (by rw [hQ]) (?_ : W p l e (RMx 1 40 2 16) s m args below meth c s.heap [] 0 0 Q (F0 m 0 ls []))
  replace hP : va_P D vwCl (List.flatten [[(h, .inr (3, [.int 0, .null, .null]))]]) s.heap := hP
  replace hD : va_D A (List.flatten [[(h, .inr (3, [.int 0, .null, .null]))]]) := hD
  refine lv_aload_n hx hb dX3_init_0 rfl (lv_at hl 0 rfl) ?_
  refine W.objInit hx hb hown (hts _ m_methodLink_P_Rows_1_java_lang_Object_init__V) (hts _ lk_objinit_i) (hts _ lk_objinit_c) rfl (by rw [hml]; exact hl.1) rfl dX3_init_1 (Nat.le_of_ble_eq_true rfl) (Nat.le_of_ble_eq_true rfl) ?_
  refine W.eq (g2 := F0 m 4 ls []) rfl ?_
  refine lv_aload_n hx hb dX3_init_4 rfl (lv_at hl 0 rfl) ?_
  refine lv_iload_n hx hb dX3_init_5 rfl (lv_at hl 1 rfl) ?_
  refine newT (a0 := (8, .inl (fun _ => 0))) (N := 8) hx hb .int (ty := .int) rfl (hts _ m_arrayClass_Jvm_ClassFile_FieldType_int) hK 0 rfl hP hD hS hA (fun _ => rfl) (by decide) (by decide) (by decide) (Nat.le_of_ble_eq_true rfl) (Nat.le_of_ble_eq_true rfl) dX3_init_6 (fun q1 H hP hD hS => ?_)
  replace hP : va_P D vwCl (List.flatten [[(h, .inr (3, [.int 0, .null, .null]))], [(q1, .inl (cA 0, 8, .inl (fun _ => 0)))]]) H := va_P.snc (segs := [[(h, .inr (3, [.int 0, .null, .null]))]]) hP
  replace hD : va_D A (List.flatten [[(h, .inr (3, [.int 0, .null, .null]))], [(q1, .inl (cA 0, 8, .inl (fun _ => 0)))]]) := va_D.snc (segs := [[(h, .inr (3, [.int 0, .null, .null]))]]) hD
  refine W.widen (k := 1) (n := 8) (Nat.le_of_ble_eq_true rfl) (Nat.le_of_ble_eq_true rfl) ?_
  refine va_putF (D := D) (ci := 3) (v := .ref q1) (ty := (.array .int)) (C := RX3) (T := TX3) (N := 3) hx hb hts fw_3 tyX3 tyX3_ok nmX3 hown hK hP hD hS 0 rfl rfl 1 (by decide) (hts _ m_fieldLink_P_Rows_7_P_Rows_first_aI) (fun _ h9 => h9) rfl hname rfl (by decide +kernel) rfl rfl (Nat.le_of_ble_eq_true rfl) dX3_init_8 (fun H locs hP hD hS => ?_)
  replace hP : va_P D vwCl (List.flatten [[(h, .inr (3, [.int 0, .ref q1, .null]))], [(q1, .inl (cA 0, 8, .inl (fun _ => 0)))]]) H := hP
  replace hD : va_D A (List.flatten [[(h, .inr (3, [.int 0, .ref q1, .null]))], [(q1, .inl (cA 0, 8, .inl (fun _ => 0)))]]) := hD
  refine lv_aload_n hx hb dX3_init_11 rfl (lv_at hl 0 rfl) ?_
  refine lv_iload_n hx hb dX3_init_12 rfl (lv_at hl 1 rfl) ?_
  refine newT (a0 := (8, .inl (fun _ => 0))) (N := 8) hx hb .int (ty := .int) rfl (hts _ m_arrayClass_Jvm_ClassFile_FieldType_int) hK 0 rfl hP hD hS hA (fun _ => rfl) (by decide) (by decide) (by decide) (Nat.le_of_ble_eq_true rfl) (Nat.le_of_ble_eq_true rfl) dX3_init_13 (fun q2 H hP hD hS => ?_)
  replace hP : va_P D vwCl (List.flatten [[(h, .inr (3, [.int 0, .ref q1, .null]))], [(q1, .inl (cA 0, 8, .inl (fun _ => 0)))], [(q2, .inl (cA 0, 8, .inl (fun _ => 0)))]]) H := va_P.snc (segs := [[(h, .inr (3, [.int 0, .ref q1, .null]))], [(q1, .inl (cA 0, 8, .inl (fun _ => 0)))]]) hP
  replace hD : va_D A (List.flatten [[(h, .inr (3, [.int 0, .ref q1, .null]))], [(q1, .inl (cA 0, 8, .inl (fun _ => 0)))], [(q2, .inl (cA 0, 8, .inl (fun _ => 0)))]]) := va_D.snc (segs := [[(h, .inr (3, [.int 0, .ref q1, .null]))], [(q1, .inl (cA 0, 8, .inl (fun _ => 0)))]]) hD
  refine W.widen (k := 2) (n := 16) (Nat.le_of_ble_eq_true rfl) (Nat.le_of_ble_eq_true rfl) ?_
  refine va_putF (D := D) (ci := 3) (v := .ref q2) (ty := (.array .int)) (C := RX3) (T := TX3) (N := 3) hx hb hts fw_3 tyX3 tyX3_ok nmX3 hown hK hP hD hS 0 rfl rfl 2 (by decide) (hts _ m_fieldLink_P_Rows_13_P_Rows_second_aI) (fun _ h9 => h9) rfl hname rfl (by decide +kernel) rfl rfl (Nat.le_of_ble_eq_true rfl) dX3_init_15 (fun H locs hP hD hS => ?_)
  replace hP : va_P D vwCl (List.flatten [[(h, .inr (3, [.int 0, .ref q1, .ref q2]))], [(q1, .inl (cA 0, 8, .inl (fun _ => 0)))], [(q2, .inl (cA 0, 8, .inl (fun _ => 0)))]]) H := hP
  replace hD : va_D A (List.flatten [[(h, .inr (3, [.int 0, .ref q1, .ref q2]))], [(q1, .inl (cA 0, 8, .inl (fun _ => 0)))], [(q2, .inl (cA 0, 8, .inl (fun _ => 0)))]]) := hD
  rw [hQ]
  exact ret_v C0 hP hD hS ⟨q1, q2, rfl⟩ dX3_init_18

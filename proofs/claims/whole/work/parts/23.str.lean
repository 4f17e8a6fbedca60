/-! texts: constants of the heap that nothing changes -/
def lnS : List Nat := [4, 4, 4, 6]
def byS : List (List Int32) := [[108, 111, 117, 100], [104, 117, 115, 104], [99, 97, 108, 109], [112, 107, 118, 110, 97, 100]]
/-- what the tables say of the private constructors of nest mates -/
def Nst (U : State) : Prop := va_Nw (.methodLinkNest RX6 11 yX1_init RX6) U ∧ va_Nw (.methodLinkNest RX6 26 yX5_init RX6) U ∧ va_Nw (.methodLinkNest RX6 33 yX0_init RX6) U ∧ va_Nw (.methodLinkNest RX6 48 yX4_init RX6) U ∧ va_Nw (.methodLinkNest RX6 111 yX2_init RX6) U ∧ va_AO "CellarPlot$Tape" U
theorem Nst.warm {s U : State} (hW : s.WarmedH U.vm) (h : Nst s) : Nst U := ⟨va_Nw.warmM hW h.1, va_Nw.warmM hW h.2.1, va_Nw.warmM hW h.2.2.1, va_Nw.warmM hW h.2.2.2.1, va_Nw.warmM hW h.2.2.2.2.1, h.2.2.2.2.2.moved hW.alike⟩
theorem Nst.same {u U : State} (e : u.vm = U.vm) (h : Nst u) : Nst U := ⟨va_Nw.same rfl e h.1, va_Nw.same rfl e h.2.1, va_Nw.same rfl e h.2.2.1, va_Nw.same rfl e h.2.2.2.1, va_Nw.same rfl e h.2.2.2.2.1, h.2.2.2.2.2.moved (by rw [e]; exact Vm.Alike.refl _)⟩
def StrE (adK adV : Nat → Nat) (A : Nat → Prop) (U : State) (H : Heap) : Prop :=
  vk_S 4 lnS byS adK adV A U H ∧ va_Z "java/lang/String" "COMPACT_STRINGS" "Z" (.int 1) A U H ∧ va_Zq "jdk/internal/util/Preconditions" "SIOOBE_FORMATTER" "Ljava/util/function/BiFunction;" A U H ∧ vk_R RX5 60 "loud" (adK 0) U ∧ vk_R RX5 62 "hush" (adK 1) U ∧ vk_R RX5 64 "calm" (adK 2) U ∧ vk_R RX5 83 "pkvnad" (adK 3) U ∧ Nst U
theorem StrE.kept {adK adV : Nat → Nat} {A : Nat → Prop} {U : State} {H H1 : Heap} (h : StrE adK adV A U H) (hq : ∀ a : Nat, a < H.size → ¬ A a → H1[a]? = H[a]?) : StrE adK adV A U H1 := ⟨h.1.kept hq, h.2.1.kept hq, h.2.2.1.kept hq, h.2.2.2⟩
theorem StrE.narrow {adK adV : Nat → Nat} {A B : Nat → Prop} {U : State} {H : Heap} (h : StrE adK adV A U H) (hAB : ∀ q, B q → A q) : StrE adK adV B U H := ⟨h.1.narrow hAB, h.2.1.narrow hAB, h.2.2.1.narrow hAB, h.2.2.2⟩
theorem StrE.warm {adK adV : Nat → Nat} {A : Nat → Prop} {s U : State} {H : Heap} (hW : s.WarmedH U.vm) (h : StrE adK adV A s H) : StrE adK adV A U H := ⟨h.1.moved hW.alike, h.2.1.moved hW.alike, h.2.2.1.moved hW.alike, h.2.2.2.1.warm hW, h.2.2.2.2.1.warm hW, h.2.2.2.2.2.1.warm hW, h.2.2.2.2.2.2.1.warm hW, h.2.2.2.2.2.2.2.warm hW⟩
def Pre1 (D : va_G) (cA : Nat → ClassId) (adK adV : Nat → Nat) (wc : va_W) (sz : Nat) : State → Prop := fun U => Pre0 D cA wc sz U ∧ StrE adK adV (va_A wc sz) U U.heap
theorem pre1_blind {as : List Value} {D : va_G} {cA : Nat → ClassId} {adK adV : Nat → Nat} {wc : va_W} {sz : Nat} : FrameBlind (va_Pc as (Pre1 D cA adK adV wc sz)) := by
  intro a U g mk q
  obtain ⟨q0, ⟨q1, qP, qK, qD⟩, h⟩ := q
  refine ⟨q0, ⟨q1, qP, va_K.moved (u := U) (U := U.calling g mk a) (Vm.Alike.refl U.vm) qK, qD⟩, ?_⟩
  exact ⟨vk_S.moved (u := U) (U := U.calling g mk a) (Vm.Alike.refl U.vm) h.1, va_Z.moved (u := U) (U := U.calling g mk a) (Vm.Alike.refl U.vm) h.2.1, va_Zq.moved (u := U) (U := U.calling g mk a) (Vm.Alike.refl U.vm) h.2.2.1, vk_R.same (u := U) (U := U.calling g mk a) rfl h.2.2.2.1, vk_R.same (u := U) (U := U.calling g mk a) rfl h.2.2.2.2.1, vk_R.same (u := U) (U := U.calling g mk a) rfl h.2.2.2.2.2.1, vk_R.same (u := U) (U := U.calling g mk a) rfl h.2.2.2.2.2.2.1, Nst.same (u := U) (U := U.calling g mk a) rfl h.2.2.2.2.2.2.2⟩
def CIs (l : Launch) (D : va_G) (cA : Nat → ClassId) (adK adV : Nat → Nat) (y : MethodName) (b : ByteArray) (n : Nat) (ret : Option FieldType) (F L : Nat) (as : List Value) (wc : va_W) (mc ms : Nat) (post : Int32 → va_W → Prop) : Prop := ∀ sz, Met l y (MW y b n ret) (RMx F L mc ms) (va_Pc as (Pre1 D cA adK adV wc sz)) (va_Qi post (End0 D (va_A wc sz)) (va_A wc sz)) mc ms (va_A wc sz)
def CVs (l : Launch) (D : va_G) (cA : Nat → ClassId) (adK adV : Nat → Nat) (y : MethodName) (b : ByteArray) (n : Nat) (ret : Option FieldType) (F L : Nat) (as : List Value) (wc : va_W) (mc ms : Nat) (post : va_W → Prop) : Prop := ∀ sz, Met l y (MW y b n ret) (RMx F L mc ms) (va_Pc as (Pre1 D cA adK adV wc sz)) (va_Qv post (End0 D (va_A wc sz)) (va_A wc sz)) mc ms (va_A wc sz)
section STARTS
variable {l : Launch} {D : va_G} {cA : Nat → ClassId} {adK adV : Nat → Nat} {y : MethodName} {b : ByteArray} {n : Nat} {ret : Option FieldType} {F L : Nat} {as : List Value} {wc : va_W} {mc ms : Nat}
theorem met_start_s {Qc : Array Value → State → Outcome → State → Prop} {sz : Nat} (hy : plainName y.cls = true) (hlen : Nat.ble (lg_sl as).length n = true)
    (body : ∀ (p : Program) (e : Env) (s : State) (m : MethodId) (args : Array Value) (below : List Frame) (meth : Method) (c : Code) (ls : Array Slot), s.heap.size = sz → args = as.toArray → Ctx p s m args meth c y b n ret D cA (va_A wc sz) → meth.name = y.name → StrE adK adV (va_A wc sz) s s.heap → va_P D vwCl wc s.heap → va_D (va_A wc sz) wc → va_S (va_A wc sz) s.heap s.heap [] → lv_has ls n (lv_args 0 as) →
      W p l e (RMx F L mc ms) s m args below meth c s.heap [] 0 0 (MQ below Qc args s mc ms (va_A wc sz)) (F0 m 0 ls [])) :
    Met l y (MW y b n ret) (RMx F L mc ms) (va_Pc as (Pre1 D cA adK adV wc sz)) Qc mc ms (va_A wc sz) := by
  refine Met.ofW (cc := b) (maxL := n) (ret := ret) hy rfl ?_
  intro p e s m args below meth c s₁ B hml hv
  obtain ⟨rfl, ⟨hsz, hP, hK, hD0⟩, hStr⟩ := hv
  have hts := atoms_spec (ws := MW y b n ret) B.pre
  have hown : s.vm.findClass y.cls = some m.cls := findClass_of_methodNamed B.named
  have hD := hD0.self (sz := sz)
  have hl := lv_entry as (n := n) (Nat.le_of_ble_eq_true hlen)
  rw [lg_entry_eq]
  exact body p e s m as.toArray below meth c _ hsz rfl ⟨B.exec, B.bytes, B.returns, hml, hown, fun w hw => hts w (List.mem_cons_of_mem _ hw), B.notSynchronized, hK, fun q hq => Or.inr (by rw [← hsz]; exact hq)⟩ (name_of_methodNamed B.named B.method).1 hStr hP hD va_S.rf hl
end STARTS
section CALLS
variable {p : Program} {l : Launch} {e : Env} {R : Room} {s : State} {m : MethodId} {args : Array Value} {below : List Frame} {meth : Method} {c : Code} {D : va_G} {cA : Nat → ClassId} {adK adV : Nat → Nat} {A : Nat → Prop} {y0 : MethodName} {b0 : ByteArray} {n0 : Nat} {r0 : Option FieldType} {H : Heap} {locs : List Loc} {cells slots : Nat} {pc : Nat} {ls : Array Slot} {Q : State → Prop}
  {y : MethodName} {b : ByteArray} {n : Nat} {ret : Option FieldType} {F1 L1 mc1 ms1 idx : Nat} {wc wr ws : va_W} {As rest st : List Value} {a : Nat}
theorem recv_w {q0 ci : Nat} {fs : List Value} {clq : vw_C} (C0 : Ctx p s m args meth c y0 b0 n0 r0 D cA A) (hP : va_P D vwCl ws H) (hq : ws[q0]? = some (a, .inr (ci, fs))) (hcl : vwCl[ci]? = some clq) (hcy : clq.1 = y.cls) : ∃ cell : Cell, H[a]? = some cell ∧ cell.vm.isStatics = false ∧ s.vm.findClass y.cls = some cell.cls := by
  rw [← hcy]; exact va_recv C0.2.2.2.2.2.2.2.1 hP hcl hq
theorem pre_ss (hK : va_K D vwCl (TY cA) s) (hP : va_P D vwCl ws H) (hD : va_D A ws) (hp : ws.Perm (wc ++ wr)) (hStr : StrE adK adV A s s.heap) (hS : va_S A s.heap H locs) (hF : ∀ q, va_A wc H.size q → A q) (st : List Value) : PreS s H (va_Pc st (Pre1 D cA adK adV wc H.size)) st :=
  ⟨pre1_blind, fun U hU hW => ⟨rfl, ⟨by rw [hU], by rw [hU]; exact (hP.perm hp).left, va_K.moved hW.alike hK, (hD.perm hp).left.weaken (fun _ _ _ _ => trivial)⟩, by rw [hU]; exact ((hStr.kept hS.2.1).narrow hF).warm hW⟩⟩
theorem callVIs {k : Nat} {post : Int32 → va_W → Prop} (C0 : Ctx p s m args meth c y0 b0 n0 r0 D cA A) (hc : CIs l D cA adK adV y b n ret F1 L1 (.ref a :: As) wc mc1 ms1 post) (hl : LinkV y0.cls idx y b n ret k) (hR : (Nat.ble (F1 + 1) R.frames && Nat.ble (8 + (n + 11) + L1) R.locals) = true) (hStr : StrE adK adV A s s.heap) (hP : va_P D vwCl ws H) (hD : va_D A ws) (hS : va_S A s.heap H locs) (hp : ws.Perm (wc ++ wr)) (hrecv : ∃ cell : Cell, H[a]? = some cell ∧ cell.vm.isStatics = false ∧ s.vm.findClass y.cls = some cell.cls) (hsize : ls.size = n0) (hn : As.length = k) (hst : st = As.reverse ++ .ref a :: rest) (hW : (rest.map fun v => v.category).sum ≤ 8) (hdg : decode b0 pc = .ok (.invokevirtual idx, 3)) (hcells : cells + mc1 ≤ R.cells ∧ slots + ms1 ≤ R.slots)
    (kk : ∀ (r : Int32) (w : va_W) (H1 : Heap) (locs1 : List Loc), post r w → va_P D vwCl (w ++ wr) H1 → va_D A (w ++ wr) → va_S A s.heap H1 locs1 → W p l e R s m args below meth c H1 locs1 (cells + mc1) (slots + ms1) Q (F0 m (pc + 3) ls (.int r :: rest))) : W p l e R s m args below meth c H locs cells slots Q (F0 m pc ls st) := by
  have hts := C0.2.2.2.2.2.1
  have hFc := w_free hD hp hS C0.2.2.2.2.2.2.2.2
  refine va_calli (va_runV (As := As) (rest := rest) ⟨C0.1, C0.2.1, C0.2.2.2.1, C0.2.2.2.2.1, hts⟩ (hc H.size) (cw_v hts hl hR) ⟨pre1_blind, hrecv, (pre_ss C0.2.2.2.2.2.2.2.1 hP hD hp hStr hS hFc _).2⟩ rfl hn hsize hst (lv_room hW) hdg hcells) hS (fun q _ h => hFc q h) hFc (fun r u t H1 locs1 ht hvm hw hB hz1 hk1 hS1 => ?_)
  obtain ⟨hP1, hD1⟩ := hB
  rw [ht] at hP1
  obtain ⟨hP2, hD2⟩ := w_join (hP.perm hp) (hD.perm hp) hk1 hFc hP1 hD1
  exact kk r u H1 locs1 hw hP2 hD2 hS1
theorem callVVs {k : Nat} {post : va_W → Prop} (C0 : Ctx p s m args meth c y0 b0 n0 r0 D cA A) (hc : CVs l D cA adK adV y b n ret F1 L1 (.ref a :: As) wc mc1 ms1 post) (hl : LinkV y0.cls idx y b n ret k) (hR : (Nat.ble (F1 + 1) R.frames && Nat.ble (8 + (n + 11) + L1) R.locals) = true) (hStr : StrE adK adV A s s.heap) (hP : va_P D vwCl ws H) (hD : va_D A ws) (hS : va_S A s.heap H locs) (hp : ws.Perm (wc ++ wr)) (hrecv : ∃ cell : Cell, H[a]? = some cell ∧ cell.vm.isStatics = false ∧ s.vm.findClass y.cls = some cell.cls) (hsize : ls.size = n0) (hn : As.length = k) (hst : st = As.reverse ++ .ref a :: rest) (hW : (rest.map fun v => v.category).sum ≤ 8) (hdg : decode b0 pc = .ok (.invokevirtual idx, 3)) (hcells : cells + mc1 ≤ R.cells ∧ slots + ms1 ≤ R.slots)
    (kk : ∀ (w : va_W) (H1 : Heap) (locs1 : List Loc), post w → va_P D vwCl (w ++ wr) H1 → va_D A (w ++ wr) → va_S A s.heap H1 locs1 → W p l e R s m args below meth c H1 locs1 (cells + mc1) (slots + ms1) Q (F0 m (pc + 3) ls (rest))) : W p l e R s m args below meth c H locs cells slots Q (F0 m pc ls st) := by
  have hts := C0.2.2.2.2.2.1
  have hFc := w_free hD hp hS C0.2.2.2.2.2.2.2.2
  refine va_callv (va_runV (As := As) (rest := rest) ⟨C0.1, C0.2.1, C0.2.2.2.1, C0.2.2.2.2.1, hts⟩ (hc H.size) (cw_v hts hl hR) ⟨pre1_blind, hrecv, (pre_ss C0.2.2.2.2.2.2.2.1 hP hD hp hStr hS hFc _).2⟩ rfl hn hsize hst (lv_room hW) hdg hcells) hS (fun q _ h => hFc q h) hFc (fun u t H1 locs1 ht hvm hw hB hz1 hk1 hS1 => ?_)
  obtain ⟨hP1, hD1⟩ := hB
  rw [ht] at hP1
  obtain ⟨hP2, hD2⟩ := w_join (hP.perm hp) (hD.perm hp) hk1 hFc hP1 hD1
  exact kk u H1 locs1 hw hP2 hD2 hS1
theorem callSIs {k : Nat} {post : Int32 → va_W → Prop} (C0 : Ctx p s m args meth c y0 b0 n0 r0 D cA A) (hc : CIs l D cA adK adV y b n ret F1 L1 (As) wc mc1 ms1 post) (hl : LinkS y0.cls idx y b n ret k) (hR : (Nat.ble (F1 + 1) R.frames && Nat.ble (8 + (n + 11) + L1) R.locals) = true) (hStr : StrE adK adV A s s.heap) (hP : va_P D vwCl ws H) (hD : va_D A ws) (hS : va_S A s.heap H locs) (hp : ws.Perm (wc ++ wr)) (hsize : ls.size = n0) (hn : As.length = k) (hst : st = As.reverse ++ rest) (hW : (rest.map fun v => v.category).sum ≤ 8) (hdg : decode b0 pc = .ok (.invokestatic idx, 3)) (hcells : cells + mc1 ≤ R.cells ∧ slots + ms1 ≤ R.slots)
    (kk : ∀ (r : Int32) (w : va_W) (H1 : Heap) (locs1 : List Loc), post r w → va_P D vwCl (w ++ wr) H1 → va_D A (w ++ wr) → va_S A s.heap H1 locs1 → W p l e R s m args below meth c H1 locs1 (cells + mc1) (slots + ms1) Q (F0 m (pc + 3) ls (.int r :: rest))) : W p l e R s m args below meth c H locs cells slots Q (F0 m pc ls st) := by
  have hts := C0.2.2.2.2.2.1
  have hFc := w_free hD hp hS C0.2.2.2.2.2.2.2.2
  refine va_calli (va_runS (As := As) (rest := rest) ⟨C0.1, C0.2.1, C0.2.2.2.1, C0.2.2.2.2.1, hts⟩ (hc H.size) (cw_s hts hl hR) (pre_ss C0.2.2.2.2.2.2.2.1 hP hD hp hStr hS hFc _) rfl hn hsize hst (lv_room hW) hdg hcells) hS (fun q _ h => hFc q h) hFc (fun r u t H1 locs1 ht hvm hw hB hz1 hk1 hS1 => ?_)
  obtain ⟨hP1, hD1⟩ := hB
  rw [ht] at hP1
  obtain ⟨hP2, hD2⟩ := w_join (hP.perm hp) (hD.perm hp) hk1 hFc hP1 hD1
  exact kk r u H1 locs1 hw hP2 hD2 hS1
theorem callSVs {k : Nat} {post : va_W → Prop} (C0 : Ctx p s m args meth c y0 b0 n0 r0 D cA A) (hc : CVs l D cA adK adV y b n ret F1 L1 (As) wc mc1 ms1 post) (hl : LinkS y0.cls idx y b n ret k) (hR : (Nat.ble (F1 + 1) R.frames && Nat.ble (8 + (n + 11) + L1) R.locals) = true) (hStr : StrE adK adV A s s.heap) (hP : va_P D vwCl ws H) (hD : va_D A ws) (hS : va_S A s.heap H locs) (hp : ws.Perm (wc ++ wr)) (hsize : ls.size = n0) (hn : As.length = k) (hst : st = As.reverse ++ rest) (hW : (rest.map fun v => v.category).sum ≤ 8) (hdg : decode b0 pc = .ok (.invokestatic idx, 3)) (hcells : cells + mc1 ≤ R.cells ∧ slots + ms1 ≤ R.slots)
    (kk : ∀ (w : va_W) (H1 : Heap) (locs1 : List Loc), post w → va_P D vwCl (w ++ wr) H1 → va_D A (w ++ wr) → va_S A s.heap H1 locs1 → W p l e R s m args below meth c H1 locs1 (cells + mc1) (slots + ms1) Q (F0 m (pc + 3) ls (rest))) : W p l e R s m args below meth c H locs cells slots Q (F0 m pc ls st) := by
  have hts := C0.2.2.2.2.2.1
  have hFc := w_free hD hp hS C0.2.2.2.2.2.2.2.2
  refine va_callv (va_runS (As := As) (rest := rest) ⟨C0.1, C0.2.1, C0.2.2.2.1, C0.2.2.2.2.1, hts⟩ (hc H.size) (cw_s hts hl hR) (pre_ss C0.2.2.2.2.2.2.2.1 hP hD hp hStr hS hFc _) rfl hn hsize hst (lv_room hW) hdg hcells) hS (fun q _ h => hFc q h) hFc (fun u t H1 locs1 ht hvm hw hB hz1 hk1 hS1 => ?_)
  obtain ⟨hP1, hD1⟩ := hB
  rw [ht] at hP1
  obtain ⟨hP2, hD2⟩ := w_join (hP.perm hp) (hD.perm hp) hk1 hFc hP1 hD1
  exact kk u H1 locs1 hw hP2 hD2 hS1
end CALLS
section RETN
variable {p : Program} {l : Launch} {e : Env} {R : Room} {s : State} {m : MethodId} {args : Array Value} {below : List Frame} {meth : Method} {c : Code} {D : va_G} {cA : Nat → ClassId} {A : Nat → Prop} {y0 : MethodName} {b0 : ByteArray} {n0 : Nat} {H : Heap} {locs : List Loc} {cells slots : Nat} {pc : Nat} {ls : Array Slot}
theorem ret_n {rt : FieldType} {post : Int32 → va_W → Prop} {v : Int32} {w : va_W} (C0 : Ctx p s m args meth c y0 b0 n0 (some rt) D cA A) (hP : va_P D vwCl w H) (hD : va_D A w) (hS : va_S A s.heap H locs) (hpost : post v w) (hn : narrow rt (.int v) = .int v) (hdg : decode b0 pc = .ok (.ireturn, 1)) : W p l e R s m args below meth c H locs cells slots (QI below D A (fun r w => post r w ∧ narrow rt (.int r) = .int r) args s cells slots) (F0 m pc ls [.int v]) :=
  W.zret C0.1 C0.2.1 C0.2.2.1 hn (fun t ht _ => ⟨⟨v, w, rfl, ⟨hpost, hn⟩, ht ▸ hP, hD⟩, hS.F ht⟩) hS.2.2 hdg C0.2.2.2.2.2.2.1
end RETN
theorem m_fieldLink_java_lang_String_38_java_lang_String_COMPACT_STRINGS_Z : (Cond.fieldLink RJ0 38 "java/lang/String" "COMPACT_STRINGS" "Z") ∈ BW := bw_in (tw_2 _ (List.mem_of_getElem? (i := 163) (by decide +kernel))) rfl
theorem m_fieldLink_java_lang_String_15_java_lang_String_coder_B : (Cond.fieldLink RJ0 15 "java/lang/String" "coder" "B") ∈ BW := bw_in (tw_6 _ (List.mem_of_getElem? (i := 132) (by decide +kernel))) rfl
theorem m_fieldLink_java_lang_String_9_java_lang_String_value_aB : (Cond.fieldLink RJ0 9 "java/lang/String" "value" "[B") ∈ BW := bw_in (tw_6 _ (List.mem_of_getElem? (i := 131) (by decide +kernel))) rfl
theorem m_methodLink_java_lang_String_335_java_lang_String_coder__B : (Cond.methodLink RJ0 335 yJ0_coder_7d493) ∈ BW := bw_in (tw_2 _ (List.mem_of_getElem? (i := 159) (by decide +kernel))) rfl
theorem m_instanceMethod_java_lang_String_coder__B : (Cond.instanceMethod yJ0_coder_7d493) ∈ BW := bw_in (tw_2 _ (List.mem_of_getElem? (i := 160) (by decide +kernel))) rfl
theorem m_selects_java_lang_String_java_lang_String_coder__B_java_lang_String_coder__B : (Cond.selects RJ0 yJ0_coder_7d493 yJ0_coder_7d493) ∈ BW := bw_in (tw_2 _ (List.mem_of_getElem? (i := 161) (by decide +kernel))) rfl
theorem m_initialized_java_lang_String : (Cond.initialized RJ0) ∈ BW := bw_in (tw_1 _ (List.mem_of_getElem? (i := 11) (by decide +kernel))) rfl
theorem m_code_java_lang_String_coder__B : (Cond.code yJ0_coder_7d493 cJ0_coder_7d493 1 (some .byte)) ∈ BW := bw_in (tw_2 _ (List.mem_of_getElem? (i := 162) (by decide +kernel))) rfl
theorem m_fieldLink_java_lang_String_1053_jdk_internal_util_Preconditions_SIOOBE_FORMATTER_Ljava_util_function_BiFunction : (Cond.fieldLink RJ0 1053 "jdk/internal/util/Preconditions" "SIOOBE_FORMATTER" "Ljava/util/function/BiFunction;") ∈ BW := bw_in (tw_2 _ (List.mem_of_getElem? (i := 179) (by decide +kernel))) rfl
theorem m_methodLink_java_lang_String_1059_jdk_internal_util_Preconditions_checkIndex_IILjava_util_function_BiFunction_I : (Cond.methodLink RJ0 1059 yJ3_checkIndex_8e157) ∈ BW := bw_in (tw_2 _ (List.mem_of_getElem? (i := 181) (by decide +kernel))) rfl
theorem m_static_jdk_internal_util_Preconditions_checkIndex_IILjava_util_function_BiFunction_I : (Cond.static yJ3_checkIndex_8e157) ∈ BW := bw_in (tw_2 _ (List.mem_of_getElem? (i := 182) (by decide +kernel))) rfl
theorem m_initialized_jdk_internal_util_Preconditions : (Cond.initialized RJ3) ∈ BW := bw_in (tw_1 _ (List.mem_of_getElem? (i := 13) (by decide +kernel))) rfl
theorem m_code_jdk_internal_util_Preconditions_checkIndex_IILjava_util_function_BiFunction_I : (Cond.code yJ3_checkIndex_8e157 cJ3_checkIndex_8e157 3 (some .int)) ∈ BW := bw_in (tw_2 _ (List.mem_of_getElem? (i := 183) (by decide +kernel))) rfl
theorem m_methodLink_java_lang_StringLatin1_9_java_lang_String_checkIndex_II_V : (Cond.methodLink RJ1 9 yJ0_checkIndex_df160) ∈ BW := bw_in (tw_2 _ (List.mem_of_getElem? (i := 176) (by decide +kernel))) rfl
theorem m_static_java_lang_String_checkIndex_II_V : (Cond.static yJ0_checkIndex_df160) ∈ BW := bw_in (tw_2 _ (List.mem_of_getElem? (i := 177) (by decide +kernel))) rfl
theorem m_code_java_lang_String_checkIndex_II_V : (Cond.code yJ0_checkIndex_df160 cJ0_checkIndex_df160 2 none) ∈ BW := bw_in (tw_2 _ (List.mem_of_getElem? (i := 178) (by decide +kernel))) rfl
theorem m_methodLink_java_lang_String_492_java_lang_String_isLatin1__Z : (Cond.methodLink RJ0 492 yJ0_isLatin1_aae02) ∈ BW := bw_in (tw_2 _ (List.mem_of_getElem? (i := 169) (by decide +kernel))) rfl
theorem m_instanceMethod_java_lang_String_isLatin1__Z : (Cond.instanceMethod yJ0_isLatin1_aae02) ∈ BW := bw_in (tw_2 _ (List.mem_of_getElem? (i := 170) (by decide +kernel))) rfl
theorem m_selects_java_lang_String_java_lang_String_isLatin1__Z_java_lang_String_isLatin1__Z : (Cond.selects RJ0 yJ0_isLatin1_aae02 yJ0_isLatin1_aae02) ∈ BW := bw_in (tw_2 _ (List.mem_of_getElem? (i := 171) (by decide +kernel))) rfl
theorem m_code_java_lang_String_isLatin1__Z : (Cond.code yJ0_isLatin1_aae02 cJ0_isLatin1_aae02 1 (some .boolean)) ∈ BW := bw_in (tw_2 _ (List.mem_of_getElem? (i := 172) (by decide +kernel))) rfl
theorem m_methodLink_java_lang_String_495_java_lang_StringLatin1_charAt_aBI_C : (Cond.methodLink RJ0 495 yJ1_charAt_3b067) ∈ BW := bw_in (tw_2 _ (List.mem_of_getElem? (i := 173) (by decide +kernel))) rfl
theorem m_static_java_lang_StringLatin1_charAt_aBI_C : (Cond.static yJ1_charAt_3b067) ∈ BW := bw_in (tw_2 _ (List.mem_of_getElem? (i := 174) (by decide +kernel))) rfl
theorem m_initialized_java_lang_StringLatin1 : (Cond.initialized RJ1) ∈ BW := bw_in (tw_1 _ (List.mem_of_getElem? (i := 12) (by decide +kernel))) rfl
theorem m_code_java_lang_StringLatin1_charAt_aBI_C : (Cond.code yJ1_charAt_3b067 cJ1_charAt_3b067 2 (some .char)) ∈ BW := bw_in (tw_2 _ (List.mem_of_getElem? (i := 175) (by decide +kernel))) rfl
theorem m_methodLink_java_lang_StringLatin1_88_java_lang_StringLatin1_canEncode_I_Z : (Cond.methodLink RJ1 88 yJ1_canEncode_9a6ad) ∈ BW := bw_in (tw_3 _ (List.mem_of_getElem? (i := 1) (by decide +kernel))) rfl
theorem m_static_java_lang_StringLatin1_canEncode_I_Z : (Cond.static yJ1_canEncode_9a6ad) ∈ BW := bw_in (tw_3 _ (List.mem_of_getElem? (i := 2) (by decide +kernel))) rfl
theorem m_code_java_lang_StringLatin1_canEncode_I_Z : (Cond.code yJ1_canEncode_9a6ad cJ1_canEncode_9a6ad 1 (some .boolean)) ∈ BW := bw_in (tw_3 _ (List.mem_of_getElem? (i := 3) (by decide +kernel))) rfl
theorem m_methodLink_java_lang_StringLatin1_92_java_lang_Math_max_II_I : (Cond.methodLink RJ1 92 Lib.Math.max.name) ∈ BW := bw_in (tw_3 _ (List.mem_of_getElem? (i := 4) (by decide +kernel))) rfl
theorem m_methodLink_java_lang_StringLatin1_38_java_lang_Math_min_II_I : (Cond.methodLink RJ1 38 Lib.Math.min.name) ∈ BW := bw_in (tw_3 _ (List.mem_of_getElem? (i := 5) (by decide +kernel))) rfl
theorem m_methodLink_java_lang_StringLatin1_95_java_lang_StringLatin1_indexOfChar_aBIII_I : (Cond.methodLink RJ1 95 yJ1_indexOfChar_4cfef) ∈ BW := bw_in (tw_3 _ (List.mem_of_getElem? (i := 6) (by decide +kernel))) rfl
theorem m_static_java_lang_StringLatin1_indexOfChar_aBIII_I : (Cond.static yJ1_indexOfChar_4cfef) ∈ BW := bw_in (tw_3 _ (List.mem_of_getElem? (i := 7) (by decide +kernel))) rfl
theorem m_code_java_lang_StringLatin1_indexOfChar_aBIII_I : (Cond.code yJ1_indexOfChar_4cfef cJ1_indexOfChar_4cfef 6 (some .int)) ∈ BW := bw_in (tw_3 _ (List.mem_of_getElem? (i := 8) (by decide +kernel))) rfl
theorem m_methodLink_java_lang_String_505_java_lang_String_length__I : (Cond.methodLink RJ0 505 yJ0_length_8abf5) ∈ BW := bw_in (tw_2 _ (List.mem_of_getElem? (i := 237) (by decide +kernel))) rfl
theorem m_instanceMethod_java_lang_String_length__I : (Cond.instanceMethod yJ0_length_8abf5) ∈ BW := bw_in (tw_2 _ (List.mem_of_getElem? (i := 156) (by decide +kernel))) rfl
theorem m_selects_java_lang_String_java_lang_String_length__I_java_lang_String_length__I : (Cond.selects RJ0 yJ0_length_8abf5 yJ0_length_8abf5) ∈ BW := bw_in (tw_2 _ (List.mem_of_getElem? (i := 157) (by decide +kernel))) rfl
theorem m_code_java_lang_String_length__I : (Cond.code yJ0_length_8abf5 cJ0_length_8abf5 1 (some .int)) ∈ BW := bw_in (tw_2 _ (List.mem_of_getElem? (i := 158) (by decide +kernel))) rfl
theorem m_methodLink_java_lang_String_637_java_lang_StringLatin1_indexOf_aBIII_I : (Cond.methodLink RJ0 637 yJ1_indexOf_4cfef) ∈ BW := bw_in (tw_2 _ (List.mem_of_getElem? (i := 238) (by decide +kernel))) rfl
theorem m_static_java_lang_StringLatin1_indexOf_aBIII_I : (Cond.static yJ1_indexOf_4cfef) ∈ BW := bw_in (tw_2 _ (List.mem_of_getElem? (i := 239) (by decide +kernel))) rfl
theorem m_code_java_lang_StringLatin1_indexOf_aBIII_I : (Cond.code yJ1_indexOf_4cfef cJ1_indexOf_4cfef 4 (some .int)) ∈ BW := bw_in (tw_3 _ (List.mem_of_getElem? (i := 0) (by decide +kernel))) rfl
theorem m_methodLink_java_lang_String_633_java_lang_String_indexOf_II_I : (Cond.methodLink RJ0 633 yJ0_indexOf_7cf53) ∈ BW := bw_in (tw_2 _ (List.mem_of_getElem? (i := 233) (by decide +kernel))) rfl
theorem m_instanceMethod_java_lang_String_indexOf_II_I : (Cond.instanceMethod yJ0_indexOf_7cf53) ∈ BW := bw_in (tw_2 _ (List.mem_of_getElem? (i := 234) (by decide +kernel))) rfl
theorem m_selects_java_lang_String_java_lang_String_indexOf_II_I_java_lang_String_indexOf_II_I : (Cond.selects RJ0 yJ0_indexOf_7cf53 yJ0_indexOf_7cf53) ∈ BW := bw_in (tw_2 _ (List.mem_of_getElem? (i := 235) (by decide +kernel))) rfl
theorem m_code_java_lang_String_indexOf_II_I : (Cond.code yJ0_indexOf_7cf53 cJ0_indexOf_7cf53 3 (some .int)) ∈ BW := bw_in (tw_2 _ (List.mem_of_getElem? (i := 236) (by decide +kernel))) rfl
theorem lk_J0_335_J0_coder_7d493 : LinkV RJ0 335 yJ0_coder_7d493 cJ0_coder_7d493 1 (some .byte) 0 := ⟨m_methodLink_java_lang_String_335_java_lang_String_coder__B, m_instanceMethod_java_lang_String_coder__B, m_selects_java_lang_String_java_lang_String_coder__B_java_lang_String_coder__B, m_initialized_java_lang_String, m_code_java_lang_String_coder__B, by decide +kernel, by decide +kernel, by decide +kernel⟩
theorem lk_J0_1059_J3_checkIndex_8e157 : LinkS RJ0 1059 yJ3_checkIndex_8e157 cJ3_checkIndex_8e157 3 (some .int) 3 := ⟨m_methodLink_java_lang_String_1059_jdk_internal_util_Preconditions_checkIndex_IILjava_util_function_BiFunction_I, m_static_jdk_internal_util_Preconditions_checkIndex_IILjava_util_function_BiFunction_I, m_initialized_jdk_internal_util_Preconditions, m_code_jdk_internal_util_Preconditions_checkIndex_IILjava_util_function_BiFunction_I, by decide +kernel, by decide +kernel, by decide +kernel⟩
theorem lk_J1_9_J0_checkIndex_df160 : LinkS RJ1 9 yJ0_checkIndex_df160 cJ0_checkIndex_df160 2 none 2 := ⟨m_methodLink_java_lang_StringLatin1_9_java_lang_String_checkIndex_II_V, m_static_java_lang_String_checkIndex_II_V, m_initialized_java_lang_String, m_code_java_lang_String_checkIndex_II_V, by decide +kernel, by decide +kernel, by decide +kernel⟩
theorem lk_J0_492_J0_isLatin1_aae02 : LinkV RJ0 492 yJ0_isLatin1_aae02 cJ0_isLatin1_aae02 1 (some .boolean) 0 := ⟨m_methodLink_java_lang_String_492_java_lang_String_isLatin1__Z, m_instanceMethod_java_lang_String_isLatin1__Z, m_selects_java_lang_String_java_lang_String_isLatin1__Z_java_lang_String_isLatin1__Z, m_initialized_java_lang_String, m_code_java_lang_String_isLatin1__Z, by decide +kernel, by decide +kernel, by decide +kernel⟩
theorem lk_J0_495_J1_charAt_3b067 : LinkS RJ0 495 yJ1_charAt_3b067 cJ1_charAt_3b067 2 (some .char) 2 := ⟨m_methodLink_java_lang_String_495_java_lang_StringLatin1_charAt_aBI_C, m_static_java_lang_StringLatin1_charAt_aBI_C, m_initialized_java_lang_StringLatin1, m_code_java_lang_StringLatin1_charAt_aBI_C, by decide +kernel, by decide +kernel, by decide +kernel⟩
theorem lk_J1_88_J1_canEncode_9a6ad : LinkS RJ1 88 yJ1_canEncode_9a6ad cJ1_canEncode_9a6ad 1 (some .boolean) 1 := ⟨m_methodLink_java_lang_StringLatin1_88_java_lang_StringLatin1_canEncode_I_Z, m_static_java_lang_StringLatin1_canEncode_I_Z, m_initialized_java_lang_StringLatin1, m_code_java_lang_StringLatin1_canEncode_I_Z, by decide +kernel, by decide +kernel, by decide +kernel⟩
theorem lk_J1_95_J1_indexOfChar_4cfef : LinkS RJ1 95 yJ1_indexOfChar_4cfef cJ1_indexOfChar_4cfef 6 (some .int) 4 := ⟨m_methodLink_java_lang_StringLatin1_95_java_lang_StringLatin1_indexOfChar_aBIII_I, m_static_java_lang_StringLatin1_indexOfChar_aBIII_I, m_initialized_java_lang_StringLatin1, m_code_java_lang_StringLatin1_indexOfChar_aBIII_I, by decide +kernel, by decide +kernel, by decide +kernel⟩
theorem lk_J0_505_J0_length_8abf5 : LinkV RJ0 505 yJ0_length_8abf5 cJ0_length_8abf5 1 (some .int) 0 := ⟨m_methodLink_java_lang_String_505_java_lang_String_length__I, m_instanceMethod_java_lang_String_length__I, m_selects_java_lang_String_java_lang_String_length__I_java_lang_String_length__I, m_initialized_java_lang_String, m_code_java_lang_String_length__I, by decide +kernel, by decide +kernel, by decide +kernel⟩
theorem lk_J0_637_J1_indexOf_4cfef : LinkS RJ0 637 yJ1_indexOf_4cfef cJ1_indexOf_4cfef 4 (some .int) 4 := ⟨m_methodLink_java_lang_String_637_java_lang_StringLatin1_indexOf_aBIII_I, m_static_java_lang_StringLatin1_indexOf_aBIII_I, m_initialized_java_lang_StringLatin1, m_code_java_lang_StringLatin1_indexOf_aBIII_I, by decide +kernel, by decide +kernel, by decide +kernel⟩
theorem lk_J0_633_J0_indexOf_7cf53 : LinkV RJ0 633 yJ0_indexOf_7cf53 cJ0_indexOf_7cf53 3 (some .int) 2 := ⟨m_methodLink_java_lang_String_633_java_lang_String_indexOf_II_I, m_instanceMethod_java_lang_String_indexOf_II_I, m_selects_java_lang_String_java_lang_String_indexOf_II_I_java_lang_String_indexOf_II_I, m_initialized_java_lang_String, m_code_java_lang_String_indexOf_II_I, by decide +kernel, by decide +kernel, by decide +kernel⟩
noncomputable def k_J0_coder_7d493  : Option Int32 := some 0
set_option maxHeartbeats 4000000 in
set_option maxRecDepth 100000 in
theorem c_J0_coder_7d493 {l : Launch} {D : va_G} {cA : Nat → ClassId} {adK adV : Nat → Nat} (i : Nat)   (hi4 : i < 4) (o : Int32) (hf : k_J0_coder_7d493  = some o) : CIs l D cA adK adV yJ0_coder_7d493 cJ0_coder_7d493 1 (some .byte) 0 0 [.ref (adK i)] ([] : va_W) 0 0 (fun r w => (r = o ∧ w = ([] : va_W)) ∧ narrow .byte (.int r) = .int r) := by
  intro sz
  refine met_start_s (by decide) rfl ?_
  intro p e s m args below meth c ls hsz hargs C0 hname hStr hP hD hS hl
  generalize hAe : va_A ([] : va_W) sz = A at C0 hStr hD hS ⊢
  obtain ⟨hx, hb, hr, hml, hown, hts, hlk, hK, hA⟩ := id C0
  replace hl : lv_has ls 1 [(0, .ref (adK i))] := hl
  obtain ⟨Q, hQ⟩ : ∃ Q : State → Prop, Q = QI below D A (fun r w => (r = o ∧ w = ([] : va_W)) ∧ narrow .byte (.int r) = .int r) args s 0 0 := ⟨_, rfl⟩
  refine cast (by rw [hQ]) (?_ : W p l e (RMx 0 0 0 0) s m args below meth c s.heap [] 0 0 Q (F0 m 0 ls []))
  unfold k_J0_coder_7d493 at hf
  refine va_gets hx hb hStr.2.1 hS hown (hts _ m_fieldLink_java_lang_String_38_java_lang_String_COMPACT_STRINGS_Z) (fun _ h9 => h9) dJ0_coder_7d493_0 ?_
  refine lv_if_eq (tgt := 13) hx hb dJ0_coder_7d493_3 (by decide) (fun z => absurd z (by decide)) (fun _ => ?_)
  refine lv_aload_n hx hb dJ0_coder_7d493_6 rfl (lv_at hl 0 rfl) ?_
  refine vk_getf (v := .int 0) hx hb (hStr.1.1 i hi4).2.1 hS hown (hts _ m_fieldLink_java_lang_String_15_java_lang_String_coder_B) (fun _ h9 => h9) dJ0_coder_7d493_7 ?_
  refine lv_goto (tgt := 14) hx hb dJ0_coder_7d493_10 (by decide) ?_
  rw [hQ]
  exact ret_n C0 hP hD hS (by have e := Option.some.inj hf; rw [← e]; exact ⟨rfl, rfl⟩) rfl dJ0_coder_7d493_14
noncomputable def k_J0_isLatin1_aae02  : Option Int32 := some 1
set_option maxHeartbeats 4000000 in
set_option maxRecDepth 100000 in
theorem c_J0_isLatin1_aae02 {l : Launch} {D : va_G} {cA : Nat → ClassId} {adK adV : Nat → Nat} (i : Nat)   (hi4 : i < 4) (o : Int32) (hf : k_J0_isLatin1_aae02  = some o) : CIs l D cA adK adV yJ0_isLatin1_aae02 cJ0_isLatin1_aae02 1 (some .boolean) 0 0 [.ref (adK i)] ([] : va_W) 0 0 (fun r w => (r = o ∧ w = ([] : va_W)) ∧ narrow .boolean (.int r) = .int r) := by
  intro sz
  refine met_start_s (by decide) rfl ?_
  intro p e s m args below meth c ls hsz hargs C0 hname hStr hP hD hS hl
  generalize hAe : va_A ([] : va_W) sz = A at C0 hStr hD hS ⊢
  obtain ⟨hx, hb, hr, hml, hown, hts, hlk, hK, hA⟩ := id C0
  replace hl : lv_has ls 1 [(0, .ref (adK i))] := hl
  obtain ⟨Q, hQ⟩ : ∃ Q : State → Prop, Q = QI below D A (fun r w => (r = o ∧ w = ([] : va_W)) ∧ narrow .boolean (.int r) = .int r) args s 0 0 := ⟨_, rfl⟩
  refine cast (by rw [hQ]) (?_ : W p l e (RMx 0 0 0 0) s m args below meth c s.heap [] 0 0 Q (F0 m 0 ls []))
  unfold k_J0_isLatin1_aae02 at hf
  refine va_gets hx hb hStr.2.1 hS hown (hts _ m_fieldLink_java_lang_String_38_java_lang_String_COMPACT_STRINGS_Z) (fun _ h9 => h9) dJ0_isLatin1_aae02_0 ?_
  refine lv_if_eq (tgt := 17) hx hb dJ0_isLatin1_aae02_3 (by decide) (fun z => absurd z (by decide)) (fun _ => ?_)
  refine lv_aload_n hx hb dJ0_isLatin1_aae02_6 rfl (lv_at hl 0 rfl) ?_
  refine vk_getf (v := .int 0) hx hb (hStr.1.1 i hi4).2.1 hS hown (hts _ m_fieldLink_java_lang_String_15_java_lang_String_coder_B) (fun _ h9 => h9) dJ0_isLatin1_aae02_7 ?_
  refine lv_if_ne (tgt := 17) hx hb dJ0_isLatin1_aae02_10 (by decide) (fun z => absurd z (by decide)) (fun _ => ?_)
  refine lv_iconst (v := 1) hx hb dJ0_isLatin1_aae02_13 (by decide) ?_
  refine lv_goto (tgt := 18) hx hb dJ0_isLatin1_aae02_14 (by decide) ?_
  rw [hQ]
  exact ret_z C0 hP hD hS (by have e := Option.some.inj hf; rw [← e]; exact ⟨rfl, rfl⟩) rfl dJ0_isLatin1_aae02_18
noncomputable def k_J0_length_8abf5 (i : Nat) : Option Int32 := b1 (k_J0_coder_7d493 ) (fun r1 => some ((nI (lnS.getD i 0)) >>> (0 &&& 31)))
set_option maxHeartbeats 4000000 in
set_option maxRecDepth 100000 in
theorem c_J0_length_8abf5 {l : Launch} {D : va_G} {cA : Nat → ClassId} {adK adV : Nat → Nat} (i : Nat)   (hi4 : i < 4) (o : Int32) (hf : k_J0_length_8abf5 i = some o) : CIs l D cA adK adV yJ0_length_8abf5 cJ0_length_8abf5 1 (some .int) 1 20 [.ref (adK i)] ([] : va_W) 0 0 (fun r w => r = o ∧ w = ([] : va_W)) := by
  intro sz
  refine met_start_s (by decide) rfl ?_
  intro p e s m args below meth c ls hsz hargs C0 hname hStr hP hD hS hl
  generalize hAe : va_A ([] : va_W) sz = A at C0 hStr hD hS ⊢
  obtain ⟨hx, hb, hr, hml, hown, hts, hlk, hK, hA⟩ := id C0
  replace hl : lv_has ls 1 [(0, .ref (adK i))] := hl
  obtain ⟨Q, hQ⟩ : ∃ Q : State → Prop, Q = QI below D A (fun r w => r = o ∧ w = ([] : va_W)) args s 0 0 := ⟨_, rfl⟩
  refine cast (by rw [hQ]) (?_ : W p l e (RMx 1 20 0 0) s m args below meth c s.heap [] 0 0 Q (F0 m 0 ls []))
  unfold k_J0_length_8abf5 at hf
  refine lv_aload_n hx hb dJ0_length_8abf5_0 rfl (lv_at hl 0 rfl) ?_
  refine vk_getf (v := .ref (adV i)) hx hb (hStr.1.1 i hi4).2.2.1 hS hown (hts _ m_fieldLink_java_lang_String_9_java_lang_String_value_aB) (fun _ h9 => h9) dJ0_length_8abf5_1 ?_
  refine va_tlen (v := (nI (lnS.getD i 0))) hx hb (hStr.1.1 i hi4).2.2.2 hS rfl dJ0_length_8abf5_4 ?_
  refine lv_aload_n hx hb dJ0_length_8abf5_5 rfl (lv_at hl 0 rfl) ?_
  obtain ⟨r1q, hq2, hf⟩ := b1_of hf
  refine callVIs (As := []) (rest := [.int (nI (lnS.getD i 0))]) (wr := ([] : va_W)) C0 (c_J0_coder_7d493 i hi4 _ hq2) lk_J0_335_J0_coder_7d493 rfl hStr hP hD hS (List.Perm.refl _) (vk_recv hStr.1 hi4 hS) hl.1 rfl rfl (Nat.le_of_ble_eq_true rfl) dJ0_length_8abf5_6 ⟨Nat.zero_le _, Nat.zero_le _⟩ (fun r1 w H locs hw hP hD hS => ?_)
  obtain ⟨⟨e1, e2⟩, z3⟩ := hw
  replace e1 : r1 = r1q := e1
  subst e1
  subst e2
  replace hP : va_P D vwCl ([] : va_W) H := hP
  replace hD : va_D A ([] : va_W) := hD
  obtain rfl : r1 = 0 := (Option.some.inj hq2).symm
  refine lv_ishr hx hb dJ0_length_8abf5_9 ?_
  rw [hQ]
  exact ret_i C0 hP hD hS (by have e := Option.some.inj hf; rw [← e]; exact ⟨rfl, rfl⟩) dJ0_length_8abf5_10
noncomputable def k_J3_checkIndex_8e157 (a0 : Int32) (a1 : Int32) : Option Int32 := if a0 < 0 then none else if a0 < a1 then some a0 else none
set_option maxHeartbeats 4000000 in
set_option maxRecDepth 100000 in
theorem c_J3_checkIndex_8e157_n {l : Launch} {D : va_G} {cA : Nat → ClassId} {adK adV : Nat → Nat}   (a0 : Int32) (a1 : Int32) (o : Int32) (hf : k_J3_checkIndex_8e157 a0 a1 = some o) : CIs l D cA adK adV yJ3_checkIndex_8e157 cJ3_checkIndex_8e157 3 (some .int) 0 0 [.int a0, .int a1, .null] ([] : va_W) 0 0 (fun r w => r = o ∧ w = ([] : va_W)) := by
  intro sz
  refine met_start_s (by decide) rfl ?_
  intro p e s m args below meth c ls hsz hargs C0 hname hStr hP hD hS hl
  generalize hAe : va_A ([] : va_W) sz = A at C0 hStr hD hS ⊢
  obtain ⟨hx, hb, hr, hml, hown, hts, hlk, hK, hA⟩ := id C0
  replace hl : lv_has ls 3 [(0, .int a0), (1, .int a1), (2, .null)] := hl
  obtain ⟨Q, hQ⟩ : ∃ Q : State → Prop, Q = QI below D A (fun r w => r = o ∧ w = ([] : va_W)) args s 0 0 := ⟨_, rfl⟩
  refine cast (by rw [hQ]) (?_ : W p l e (RMx 0 0 0 0) s m args below meth c s.heap [] 0 0 Q (F0 m 0 ls []))
  unfold k_J3_checkIndex_8e157 at hf
  refine lv_iload_n hx hb dJ3_checkIndex_8e157_0 rfl (lv_at hl 0 rfl) ?_
  refine lv_if_lt (tgt := 9) hx hb dJ3_checkIndex_8e157_1 (by decide) (fun c1 => ?_) (fun c1 => ?_)
  · replace hf := it_of c1 hf
    cases hf
  · replace hf := ie_of c1 hf
    refine lv_iload_n hx hb dJ3_checkIndex_8e157_4 rfl (lv_at hl 0 rfl) ?_
    refine lv_iload_n hx hb dJ3_checkIndex_8e157_5 rfl (lv_at hl 1 rfl) ?_
    refine lv_icmp_lt (tgt := 16) hx hb dJ3_checkIndex_8e157_6 (by decide) (fun c2 => ?_) (fun c2 => ?_)
    · replace hf := it_of c2 hf
      refine lv_iload_n hx hb dJ3_checkIndex_8e157_16 rfl (lv_at hl 0 rfl) ?_
      rw [hQ]
      exact ret_i C0 hP hD hS (by have e := Option.some.inj hf; rw [← e]; exact ⟨rfl, rfl⟩) dJ3_checkIndex_8e157_17
    · replace hf := ie_of c2 hf
      cases hf
set_option maxHeartbeats 4000000 in
set_option maxRecDepth 100000 in
theorem c_J3_checkIndex_8e157_r {l : Launch} {D : va_G} {cA : Nat → ClassId} {adK adV : Nat → Nat} (t9 : Nat)  (a0 : Int32) (a1 : Int32) (o : Int32) (hf : k_J3_checkIndex_8e157 a0 a1 = some o) : CIs l D cA adK adV yJ3_checkIndex_8e157 cJ3_checkIndex_8e157 3 (some .int) 0 0 [.int a0, .int a1, .ref t9] ([] : va_W) 0 0 (fun r w => r = o ∧ w = ([] : va_W)) := by
  intro sz
  refine met_start_s (by decide) rfl ?_
  intro p e s m args below meth c ls hsz hargs C0 hname hStr hP hD hS hl
  generalize hAe : va_A ([] : va_W) sz = A at C0 hStr hD hS ⊢
  obtain ⟨hx, hb, hr, hml, hown, hts, hlk, hK, hA⟩ := id C0
  replace hl : lv_has ls 3 [(0, .int a0), (1, .int a1), (2, .ref t9)] := hl
  obtain ⟨Q, hQ⟩ : ∃ Q : State → Prop, Q = QI below D A (fun r w => r = o ∧ w = ([] : va_W)) args s 0 0 := ⟨_, rfl⟩
  refine cast (by rw [hQ]) (?_ : W p l e (RMx 0 0 0 0) s m args below meth c s.heap [] 0 0 Q (F0 m 0 ls []))
  unfold k_J3_checkIndex_8e157 at hf
  refine lv_iload_n hx hb dJ3_checkIndex_8e157_0 rfl (lv_at hl 0 rfl) ?_
  refine lv_if_lt (tgt := 9) hx hb dJ3_checkIndex_8e157_1 (by decide) (fun c1 => ?_) (fun c1 => ?_)
  · replace hf := it_of c1 hf
    cases hf
  · replace hf := ie_of c1 hf
    refine lv_iload_n hx hb dJ3_checkIndex_8e157_4 rfl (lv_at hl 0 rfl) ?_
    refine lv_iload_n hx hb dJ3_checkIndex_8e157_5 rfl (lv_at hl 1 rfl) ?_
    refine lv_icmp_lt (tgt := 16) hx hb dJ3_checkIndex_8e157_6 (by decide) (fun c2 => ?_) (fun c2 => ?_)
    · replace hf := it_of c2 hf
      refine lv_iload_n hx hb dJ3_checkIndex_8e157_16 rfl (lv_at hl 0 rfl) ?_
      rw [hQ]
      exact ret_i C0 hP hD hS (by have e := Option.some.inj hf; rw [← e]; exact ⟨rfl, rfl⟩) dJ3_checkIndex_8e157_17
    · replace hf := ie_of c2 hf
      cases hf
noncomputable def k_J0_checkIndex_df160 (a0 : Int32) (a1 : Int32) : Option Unit := b1 (k_J3_checkIndex_8e157 a0 a1) (fun r1 => some ())
set_option maxHeartbeats 4000000 in
set_option maxRecDepth 100000 in
theorem c_J0_checkIndex_df160 {l : Launch} {D : va_G} {cA : Nat → ClassId} {adK adV : Nat → Nat}   (a0 : Int32) (a1 : Int32) (o : Unit) (hf : k_J0_checkIndex_df160 a0 a1 = some o) : CVs l D cA adK adV yJ0_checkIndex_df160 cJ0_checkIndex_df160 2 none 1 22 [.int a0, .int a1] ([] : va_W) 0 0 (fun w => w = ([] : va_W)) := by
  intro sz
  refine met_start_s (by decide) rfl ?_
  intro p e s m args below meth c ls hsz hargs C0 hname hStr hP hD hS hl
  generalize hAe : va_A ([] : va_W) sz = A at C0 hStr hD hS ⊢
  obtain ⟨hx, hb, hr, hml, hown, hts, hlk, hK, hA⟩ := id C0
  replace hl : lv_has ls 2 [(0, .int a0), (1, .int a1)] := hl
  obtain ⟨Q, hQ⟩ : ∃ Q : State → Prop, Q = QV below D A (fun w => w = ([] : va_W)) args s 0 0 := ⟨_, rfl⟩
  refine cast (by rw [hQ]) (?_ : W p l e (RMx 1 22 0 0) s m args below meth c s.heap [] 0 0 Q (F0 m 0 ls []))
  unfold k_J0_checkIndex_df160 at hf
  refine lv_iload_n hx hb dJ0_checkIndex_df160_0 rfl (lv_at hl 0 rfl) ?_
  refine lv_iload_n hx hb dJ0_checkIndex_df160_1 rfl (lv_at hl 1 rfl) ?_
  rcases hStr.2.2.1 with hZ9 | ⟨t9, hZ9⟩
  · refine va_gets hx hb hZ9 hS hown (hts _ m_fieldLink_java_lang_String_1053_jdk_internal_util_Preconditions_SIOOBE_FORMATTER_Ljava_util_function_BiFunction) (fun _ h9 => h9) dJ0_checkIndex_df160_2 ?_
    obtain ⟨r1q, hq2, hf⟩ := b1_of hf
    refine callSIs (As := [.int a0, .int a1, .null]) (rest := []) (wr := ([] : va_W)) C0 (c_J3_checkIndex_8e157_n a0 a1 _ hq2) lk_J0_1059_J3_checkIndex_8e157 rfl hStr hP hD hS (List.Perm.refl _) hl.1 rfl rfl (Nat.le_of_ble_eq_true rfl) dJ0_checkIndex_df160_5 ⟨Nat.zero_le _, Nat.zero_le _⟩ (fun r1 w H locs hw hP hD hS => ?_)
    obtain ⟨e1, e2⟩ := hw
    replace e1 : r1 = r1q := e1
    subst e1
    subst e2
    replace hP : va_P D vwCl ([] : va_W) H := hP
    replace hD : va_D A ([] : va_W) := hD
    refine lv_pop hx hb dJ0_checkIndex_df160_8 rfl ?_
    rw [hQ]
    exact ret_v C0 hP hD hS rfl dJ0_checkIndex_df160_9
  · refine va_gets hx hb hZ9 hS hown (hts _ m_fieldLink_java_lang_String_1053_jdk_internal_util_Preconditions_SIOOBE_FORMATTER_Ljava_util_function_BiFunction) (fun _ h9 => h9) dJ0_checkIndex_df160_2 ?_
    obtain ⟨r1q, hq2, hf⟩ := b1_of hf
    refine callSIs (As := [.int a0, .int a1, .ref t9]) (rest := []) (wr := ([] : va_W)) C0 (c_J3_checkIndex_8e157_r t9 a0 a1 _ hq2) lk_J0_1059_J3_checkIndex_8e157 rfl hStr hP hD hS (List.Perm.refl _) hl.1 rfl rfl (Nat.le_of_ble_eq_true rfl) dJ0_checkIndex_df160_5 ⟨Nat.zero_le _, Nat.zero_le _⟩ (fun r1 w H locs hw hP hD hS => ?_)
    obtain ⟨e1, e2⟩ := hw
    replace e1 : r1 = r1q := e1
    subst e1
    subst e2
    replace hP : va_P D vwCl ([] : va_W) H := hP
    replace hD : va_D A ([] : va_W) := hD
    refine lv_pop hx hb dJ0_checkIndex_df160_8 rfl ?_
    rw [hQ]
    exact ret_v C0 hP hD hS rfl dJ0_checkIndex_df160_9
noncomputable def k_J1_charAt_3b067 (i : Nat) (a1 : Int32) : Option Int32 := b1 (k_J0_checkIndex_df160 a1 (nI (lnS.getD i 0))) (fun u0 => gd a1 (lnS.getD i 0) (some (((((byS.getD i []).getD (Int32.toNatClampNeg a1) 0) &&& 255).toUInt32 % 65536).toInt32)))
set_option maxHeartbeats 4000000 in
set_option maxRecDepth 100000 in
theorem c_J1_charAt_3b067 {l : Launch} {D : va_G} {cA : Nat → ClassId} {adK adV : Nat → Nat} (i : Nat)  (a1 : Int32) (hi4 : i < 4) (o : Int32) (hf : k_J1_charAt_3b067 i a1 = some o) : CIs l D cA adK adV yJ1_charAt_3b067 cJ1_charAt_3b067 2 (some .char) 2 43 [.ref (adV i), .int a1] ([] : va_W) 0 0 (fun r w => (r = o ∧ w = ([] : va_W)) ∧ narrow .char (.int r) = .int r) := by
  intro sz
  refine met_start_s (by decide) rfl ?_
  intro p e s m args below meth c ls hsz hargs C0 hname hStr hP hD hS hl
  generalize hAe : va_A ([] : va_W) sz = A at C0 hStr hD hS ⊢
  obtain ⟨hx, hb, hr, hml, hown, hts, hlk, hK, hA⟩ := id C0
  replace hl : lv_has ls 2 [(0, .ref (adV i)), (1, .int a1)] := hl
  obtain ⟨Q, hQ⟩ : ∃ Q : State → Prop, Q = QI below D A (fun r w => (r = o ∧ w = ([] : va_W)) ∧ narrow .char (.int r) = .int r) args s 0 0 := ⟨_, rfl⟩
  refine cast (by rw [hQ]) (?_ : W p l e (RMx 2 43 0 0) s m args below meth c s.heap [] 0 0 Q (F0 m 0 ls []))
  unfold k_J1_charAt_3b067 at hf
  refine lv_iload_n hx hb dJ1_charAt_3b067_0 rfl (lv_at hl 1 rfl) ?_
  refine lv_aload_n hx hb dJ1_charAt_3b067_1 rfl (lv_at hl 0 rfl) ?_
  refine va_tlen (v := (nI (lnS.getD i 0))) hx hb (hStr.1.1 i hi4).2.2.2 hS rfl dJ1_charAt_3b067_2 ?_
  obtain ⟨u0, hq1, hf⟩ := b1_of hf
  refine callSVs (As := [.int a1, .int (nI (lnS.getD i 0))]) (rest := []) (wr := ([] : va_W)) C0 (c_J0_checkIndex_df160 a1 (nI (lnS.getD i 0)) _ hq1) lk_J1_9_J0_checkIndex_df160 rfl hStr hP hD hS (List.Perm.refl _) hl.1 rfl rfl (Nat.le_of_ble_eq_true rfl) dJ1_charAt_3b067_3 ⟨Nat.zero_le _, Nat.zero_le _⟩ (fun w H locs hw hP hD hS => ?_)
  have e2 := hw
  subst e2
  replace hP : va_P D vwCl ([] : va_W) H := hP
  replace hD : va_D A ([] : va_W) := hD
  refine lv_aload_n hx hb dJ1_charAt_3b067_6 rfl (lv_at hl 0 rfl) ?_
  refine lv_iload_n hx hb dJ1_charAt_3b067_7 rfl (lv_at hl 1 rfl) ?_
  obtain ⟨hi2, hf⟩ := gd_of hf
  refine va_tb (v := .int ((byS.getD i []).getD (Int32.toNatClampNeg a1) 0)) hx hb (hStr.1.1 i hi4).2.2.2 hS hi2 rfl dJ1_charAt_3b067_8 ?_
  refine lv_sipush (v := 255) hx hb dJ1_charAt_3b067_9 (by decide) ?_
  refine lv_iand hx hb dJ1_charAt_3b067_12 ?_
  refine lv_i2c (v := (((((byS.getD i []).getD (Int32.toNatClampNeg a1) 0) &&& 255).toUInt32 % 65536).toInt32)) hx hb dJ1_charAt_3b067_13 rfl ?_
  rw [hQ]
  exact ret_n C0 hP hD hS (by have e := Option.some.inj hf; rw [← e]; exact ⟨rfl, rfl⟩) (pk_nc _) dJ1_charAt_3b067_14
noncomputable def k_J0_charAt_5068e (i : Nat) (a1 : Int32) : Option Int32 := b1 (k_J0_isLatin1_aae02 ) (fun r1 => b1 (k_J1_charAt_3b067 i a1) (fun r4 => some r4))
set_option maxHeartbeats 4000000 in
set_option maxRecDepth 100000 in
theorem c_J0_charAt_5068e {l : Launch} {D : va_G} {cA : Nat → ClassId} {adK adV : Nat → Nat} (i : Nat)  (a1 : Int32) (hi4 : i < 4) (o : Int32) (hf : k_J0_charAt_5068e i a1 = some o) : CIs l D cA adK adV yJ0_charAt_5068e cJ0_charAt_5068e 2 (some .char) 3 64 [.ref (adK i), .int a1] ([] : va_W) 0 0 (fun r w => (r = o ∧ w = ([] : va_W)) ∧ narrow .char (.int r) = .int r) := by
  intro sz
  refine met_start_s (by decide) rfl ?_
  intro p e s m args below meth c ls hsz hargs C0 hname hStr hP hD hS hl
  generalize hAe : va_A ([] : va_W) sz = A at C0 hStr hD hS ⊢
  obtain ⟨hx, hb, hr, hml, hown, hts, hlk, hK, hA⟩ := id C0
  replace hl : lv_has ls 2 [(0, .ref (adK i)), (1, .int a1)] := hl
  obtain ⟨Q, hQ⟩ : ∃ Q : State → Prop, Q = QI below D A (fun r w => (r = o ∧ w = ([] : va_W)) ∧ narrow .char (.int r) = .int r) args s 0 0 := ⟨_, rfl⟩
  refine cast (by rw [hQ]) (?_ : W p l e (RMx 3 64 0 0) s m args below meth c s.heap [] 0 0 Q (F0 m 0 ls []))
  unfold k_J0_charAt_5068e at hf
  refine lv_aload_n hx hb dJ0_charAt_5068e_0 rfl (lv_at hl 0 rfl) ?_
  obtain ⟨r1q, hq2, hf⟩ := b1_of hf
  refine callVIs (As := []) (rest := []) (wr := ([] : va_W)) C0 (c_J0_isLatin1_aae02 i hi4 _ hq2) lk_J0_492_J0_isLatin1_aae02 rfl hStr hP hD hS (List.Perm.refl _) (vk_recv hStr.1 hi4 hS) hl.1 rfl rfl (Nat.le_of_ble_eq_true rfl) dJ0_charAt_5068e_1 ⟨Nat.zero_le _, Nat.zero_le _⟩ (fun r1 w H locs hw hP hD hS => ?_)
  obtain ⟨⟨e1, e2⟩, z3⟩ := hw
  replace e1 : r1 = r1q := e1
  subst e1
  subst e2
  replace hP : va_P D vwCl ([] : va_W) H := hP
  replace hD : va_D A ([] : va_W) := hD
  obtain rfl : r1 = 1 := (Option.some.inj hq2).symm
  refine lv_if_eq (tgt := 16) hx hb dJ0_charAt_5068e_4 (by decide) (fun z => absurd z (by decide)) (fun _ => ?_)
  refine lv_aload_n hx hb dJ0_charAt_5068e_7 rfl (lv_at hl 0 rfl) ?_
  refine vk_getf (v := .ref (adV i)) hx hb (hStr.1.1 i hi4).2.2.1 hS hown (hts _ m_fieldLink_java_lang_String_9_java_lang_String_value_aB) (fun _ h9 => h9) dJ0_charAt_5068e_8 ?_
  refine lv_iload_n hx hb dJ0_charAt_5068e_11 rfl (lv_at hl 1 rfl) ?_
  obtain ⟨r4q, hq5, hf⟩ := b1_of hf
  refine callSIs (As := [.ref (adV i), .int a1]) (rest := []) (wr := ([] : va_W)) C0 (c_J1_charAt_3b067 i a1 hi4 _ hq5) lk_J0_495_J1_charAt_3b067 rfl hStr hP hD hS (List.Perm.refl _) hl.1 rfl rfl (Nat.le_of_ble_eq_true rfl) dJ0_charAt_5068e_12 ⟨Nat.zero_le _, Nat.zero_le _⟩ (fun r4 w H locs hw hP hD hS => ?_)
  obtain ⟨⟨e1, e2⟩, z6⟩ := hw
  replace e1 : r4 = r4q := e1
  subst e1
  subst e2
  replace hP : va_P D vwCl ([] : va_W) H := hP
  replace hD : va_D A ([] : va_W) := hD
  rw [hQ]
  exact ret_n C0 hP hD hS (by have e := Option.some.inj hf; rw [← e]; exact ⟨rfl, rfl⟩) z6 dJ0_charAt_5068e_15
noncomputable def k_J1_canEncode_9a6ad (a0 : Int32) : Option Int32 := if a0 < 0 then some 0 else if 255 < a0 then some 0 else some 1
set_option maxHeartbeats 4000000 in
set_option maxRecDepth 100000 in
theorem c_J1_canEncode_9a6ad {l : Launch} {D : va_G} {cA : Nat → ClassId} {adK adV : Nat → Nat}   (a0 : Int32) (o : Int32) (hf : k_J1_canEncode_9a6ad a0 = some o) : CIs l D cA adK adV yJ1_canEncode_9a6ad cJ1_canEncode_9a6ad 1 (some .boolean) 0 0 [.int a0] ([] : va_W) 0 0 (fun r w => (r = o ∧ w = ([] : va_W)) ∧ narrow .boolean (.int r) = .int r) := by
  intro sz
  refine met_start_s (by decide) rfl ?_
  intro p e s m args below meth c ls hsz hargs C0 hname hStr hP hD hS hl
  generalize hAe : va_A ([] : va_W) sz = A at C0 hStr hD hS ⊢
  obtain ⟨hx, hb, hr, hml, hown, hts, hlk, hK, hA⟩ := id C0
  replace hl : lv_has ls 1 [(0, .int a0)] := hl
  obtain ⟨Q, hQ⟩ : ∃ Q : State → Prop, Q = QI below D A (fun r w => (r = o ∧ w = ([] : va_W)) ∧ narrow .boolean (.int r) = .int r) args s 0 0 := ⟨_, rfl⟩
  refine cast (by rw [hQ]) (?_ : W p l e (RMx 0 0 0 0) s m args below meth c s.heap [] 0 0 Q (F0 m 0 ls []))
  unfold k_J1_canEncode_9a6ad at hf
  refine lv_iload_n hx hb dJ1_canEncode_9a6ad_0 rfl (lv_at hl 0 rfl) ?_
  refine lv_if_lt (tgt := 15) hx hb dJ1_canEncode_9a6ad_1 (by decide) (fun c1 => ?_) (fun c1 => ?_)
  · replace hf := it_of c1 hf
    refine lv_iconst (v := 0) hx hb dJ1_canEncode_9a6ad_15 (by decide) ?_
    rw [hQ]
    exact ret_z C0 hP hD hS (by have e := Option.some.inj hf; rw [← e]; exact ⟨rfl, rfl⟩) rfl dJ1_canEncode_9a6ad_16
  · replace hf := ie_of c1 hf
    refine lv_iload_n hx hb dJ1_canEncode_9a6ad_4 rfl (lv_at hl 0 rfl) ?_
    refine lv_sipush (v := 255) hx hb dJ1_canEncode_9a6ad_5 (by decide) ?_
    refine lv_icmp_gt (tgt := 15) hx hb dJ1_canEncode_9a6ad_8 (by decide) (fun c2 => ?_) (fun c2 => ?_)
    · replace hf := it_of c2 hf
      refine lv_iconst (v := 0) hx hb dJ1_canEncode_9a6ad_15 (by decide) ?_
      rw [hQ]
      exact ret_z C0 hP hD hS (by have e := Option.some.inj hf; rw [← e]; exact ⟨rfl, rfl⟩) rfl dJ1_canEncode_9a6ad_16
    · replace hf := ie_of c2 hf
      refine lv_iconst (v := 1) hx hb dJ1_canEncode_9a6ad_11 (by decide) ?_
      refine lv_goto (tgt := 16) hx hb dJ1_canEncode_9a6ad_12 (by decide) ?_
      rw [hQ]
      exact ret_z C0 hP hD hS (by have e := Option.some.inj hf; rw [← e]; exact ⟨rfl, rfl⟩) rfl dJ1_canEncode_9a6ad_16
noncomputable def k_J1_indexOfChar_4cfef_7 (i : Nat) (a3 : Int32) : Nat → Int32 → Int32 → Option Int32
  | 0, _, _ => none
  | n + 1, x4, x5 => if a3 ≤ x5 then some (-1) else gd x5 (lnS.getD i 0) (if ((byS.getD i []).getD (Int32.toNatClampNeg x5) 0) = x4 then some x5 else k_J1_indexOfChar_4cfef_7 i a3 n x4 (x5 + 1))
noncomputable def k_J1_indexOfChar_4cfef (i : Nat) (a1 : Int32) (a2 : Int32) (a3 : Int32) : Option Int32 := k_J1_indexOfChar_4cfef_7 i a3 100000 (Int8.toInt32 (Int32.toInt8 a1)) a2
set_option maxHeartbeats 4000000 in
set_option maxRecDepth 100000 in
theorem c_J1_indexOfChar_4cfef {l : Launch} {D : va_G} {cA : Nat → ClassId} {adK adV : Nat → Nat} (i : Nat)  (a1 : Int32) (a2 : Int32) (a3 : Int32) (hi4 : i < 4) (o : Int32) (hf : k_J1_indexOfChar_4cfef i a1 a2 a3 = some o) : CIs l D cA adK adV yJ1_indexOfChar_4cfef cJ1_indexOfChar_4cfef 6 (some .int) 0 0 [.ref (adV i), .int a1, .int a2, .int a3] ([] : va_W) 0 0 (fun r w => r = o ∧ w = ([] : va_W)) := by
  intro sz
  refine met_start_s (by decide) rfl ?_
  intro p e s m args below meth c ls hsz hargs C0 hname hStr hP hD hS hl
  generalize hAe : va_A ([] : va_W) sz = A at C0 hStr hD hS ⊢
  obtain ⟨hx, hb, hr, hml, hown, hts, hlk, hK, hA⟩ := id C0
  replace hl : lv_has ls 6 [(0, .ref (adV i)), (1, .int a1), (2, .int a2), (3, .int a3)] := hl
  obtain ⟨Q, hQ⟩ : ∃ Q : State → Prop, Q = QI below D A (fun r w => r = o ∧ w = ([] : va_W)) args s 0 0 := ⟨_, rfl⟩
  refine cast (by rw [hQ]) (?_ : W p l e (RMx 0 0 0 0) s m args below meth c s.heap [] 0 0 Q (F0 m 0 ls []))
  have J7 : ∀ n : Nat, ∀ (x4 : Int32) (x5 : Int32), k_J1_indexOfChar_4cfef_7 i a3 n x4 x5 = some o → ∀ (H : Heap) (locs : List Loc), va_P D vwCl ([] : va_W) H → va_D A ([] : va_W) → va_S A s.heap H locs → ∀ ls : Array Slot, lv_has ls 6 [(0, .ref (adV i)), (3, .int a3), (4, .int x4), (5, .int x5)] → W p l e (RMx 0 0 0 0) s m args below meth c H locs 0 0 Q (F0 m 7 ls []) := by
    intro  n
    induction n with
    | zero =>
      intro x4 x5 hf
      rw [k_J1_indexOfChar_4cfef_7] at hf
      cases hf
    | succ n ih =>
      intro x4 x5 hf H locs hP hD hS ls hl
      rw [k_J1_indexOfChar_4cfef_7] at hf
      refine lv_iload hx hb dJ1_indexOfChar_4cfef_7 (lv_at hl 3 rfl) ?_
      refine lv_iload_n hx hb dJ1_indexOfChar_4cfef_9 rfl (lv_at hl 1 rfl) ?_
      refine lv_icmp_ge (tgt := 31) hx hb dJ1_indexOfChar_4cfef_10 (by decide) (fun c1 => ?_) (fun c1 => ?_)
      · replace hf := it_of c1 hf
        refine lv_iconst (v := (-1)) hx hb dJ1_indexOfChar_4cfef_31 (by decide) ?_
        rw [hQ]
        exact ret_i C0 hP hD hS (by have e := Option.some.inj hf; rw [← e]; exact ⟨rfl, rfl⟩) dJ1_indexOfChar_4cfef_32
      · replace hf := ie_of c1 hf
        refine lv_aload_n hx hb dJ1_indexOfChar_4cfef_13 rfl (lv_at hl 0 rfl) ?_
        refine lv_iload hx hb dJ1_indexOfChar_4cfef_14 (lv_at hl 3 rfl) ?_
        obtain ⟨hi2, hf⟩ := gd_of hf
        refine va_tb (v := .int ((byS.getD i []).getD (Int32.toNatClampNeg x5) 0)) hx hb (hStr.1.1 i hi4).2.2.2 hS hi2 rfl dJ1_indexOfChar_4cfef_16 ?_
        refine lv_iload hx hb dJ1_indexOfChar_4cfef_17 (lv_at hl 2 rfl) ?_
        refine lv_icmp_ne (tgt := 25) hx hb dJ1_indexOfChar_4cfef_19 (by decide) (fun c3 => ?_) (fun c3 => ?_)
        · replace hf := ie_of c3 hf
          refine lv_iinc (v := (x5 + 1)) (lv' := [(5, .int (x5 + 1)), (0, .ref (adV i)), (3, .int a3), (4, .int x4)]) hx hb dJ1_indexOfChar_4cfef_25 hl (k := 3) rfl rfl (by decide) rfl (fun ls hl => ?_)
          refine lv_goto (tgt := 7) hx hb dJ1_indexOfChar_4cfef_28 (by decide) ?_
          exact ih x4 (x5 + 1) hf _ _ hP hD hS _ (lv_sub hl [1, 2, 3, 0] rfl)
        · replace hf := it_of c3 hf
          refine lv_iload hx hb dJ1_indexOfChar_4cfef_22 (lv_at hl 3 rfl) ?_
          rw [hQ]
          exact ret_i C0 hP hD hS (by have e := Option.some.inj hf; rw [← e]; exact ⟨rfl, rfl⟩) dJ1_indexOfChar_4cfef_24
  unfold k_J1_indexOfChar_4cfef at hf
  refine lv_iload_n hx hb dJ1_indexOfChar_4cfef_0 rfl (lv_at hl 1 rfl) ?_
  refine lv_i2b (v := (Int8.toInt32 (Int32.toInt8 a1))) hx hb dJ1_indexOfChar_4cfef_1 rfl ?_
  refine lv_istore (lv' := [(4, .int (Int8.toInt32 (Int32.toInt8 a1))), (0, .ref (adV i)), (1, .int a1), (2, .int a2), (3, .int a3)]) hx hb dJ1_indexOfChar_4cfef_2 hl (by decide) rfl (fun ls hl => ?_)
  refine lv_iload_n hx hb dJ1_indexOfChar_4cfef_4 rfl (lv_at hl 3 rfl) ?_
  refine lv_istore (lv' := [(5, .int a2), (4, .int (Int8.toInt32 (Int32.toInt8 a1))), (0, .ref (adV i)), (1, .int a1), (2, .int a2), (3, .int a3)]) hx hb dJ1_indexOfChar_4cfef_5 hl (by decide) rfl (fun ls hl => ?_)
  exact J7 100000 (Int8.toInt32 (Int32.toInt8 a1)) a2 hf _ _ hP hD hS _ (lv_sub hl [2, 5, 1, 0] rfl)
noncomputable def k_J1_indexOf_4cfef (i : Nat) (a1 : Int32) (a2 : Int32) (a3 : Int32) : Option Int32 := b1 (k_J1_canEncode_9a6ad a1) (fun r1 => if r1 = 0 then some (-1) else nm (if a2 < 0 then 0 else a2) (fun mm5 => nm (if (nI (lnS.getD i 0)) < a3 then (nI (lnS.getD i 0)) else a3) (fun mm6 => if mm5 < mm6 then b1 (k_J1_indexOfChar_4cfef i a1 mm5 mm6) (fun r8 => some r8) else some (-1))))
set_option maxHeartbeats 4000000 in
set_option maxRecDepth 100000 in
theorem c_J1_indexOf_4cfef {l : Launch} {D : va_G} {cA : Nat → ClassId} {adK adV : Nat → Nat} (i : Nat)  (a1 : Int32) (a2 : Int32) (a3 : Int32) (hi4 : i < 4) (o : Int32) (hf : k_J1_indexOf_4cfef i a1 a2 a3 = some o) : CIs l D cA adK adV yJ1_indexOf_4cfef cJ1_indexOf_4cfef 4 (some .int) 1 25 [.ref (adV i), .int a1, .int a2, .int a3] ([] : va_W) 0 0 (fun r w => r = o ∧ w = ([] : va_W)) := by
  intro sz
  refine met_start_s (by decide) rfl ?_
  intro p e s m args below meth c ls hsz hargs C0 hname hStr hP hD hS hl
  generalize hAe : va_A ([] : va_W) sz = A at C0 hStr hD hS ⊢
  obtain ⟨hx, hb, hr, hml, hown, hts, hlk, hK, hA⟩ := id C0
  replace hl : lv_has ls 4 [(0, .ref (adV i)), (1, .int a1), (2, .int a2), (3, .int a3)] := hl
  obtain ⟨Q, hQ⟩ : ∃ Q : State → Prop, Q = QI below D A (fun r w => r = o ∧ w = ([] : va_W)) args s 0 0 := ⟨_, rfl⟩
  refine cast (by rw [hQ]) (?_ : W p l e (RMx 1 25 0 0) s m args below meth c s.heap [] 0 0 Q (F0 m 0 ls []))
  unfold k_J1_indexOf_4cfef at hf
  refine lv_iload_n hx hb dJ1_indexOf_4cfef_0 rfl (lv_at hl 1 rfl) ?_
  obtain ⟨r1q, hq2, hf⟩ := b1_of hf
  refine callSIs (As := [.int a1]) (rest := []) (wr := ([] : va_W)) C0 (c_J1_canEncode_9a6ad a1 _ hq2) lk_J1_88_J1_canEncode_9a6ad rfl hStr hP hD hS (List.Perm.refl _) hl.1 rfl rfl (Nat.le_of_ble_eq_true rfl) dJ1_indexOf_4cfef_1 ⟨Nat.zero_le _, Nat.zero_le _⟩ (fun r1 w H locs hw hP hD hS => ?_)
  obtain ⟨⟨e1, e2⟩, z3⟩ := hw
  replace e1 : r1 = r1q := e1
  subst e1
  subst e2
  replace hP : va_P D vwCl ([] : va_W) H := hP
  replace hD : va_D A ([] : va_W) := hD
  refine lv_if_ne (tgt := 9) hx hb dJ1_indexOf_4cfef_4 (by decide) (fun c4 => ?_) (fun c4 => ?_)
  · replace hf := ie_of c4 hf
    refine lv_iload_n hx hb dJ1_indexOf_4cfef_9 rfl (lv_at hl 2 rfl) ?_
    refine lv_iconst (v := 0) hx hb dJ1_indexOf_4cfef_10 (by decide) ?_
    refine va_mmax hx hb (by rw [hml]; exact hl.1.symm) hown (hts _ m_methodLink_java_lang_StringLatin1_92_java_lang_Math_max_II_I) (hts _ m_static_java_lang_Math_max_II_I) (hts _ m_initialized_java_lang_Math) (hts _ m_code_java_lang_Math_max_II_I) (Nat.le_of_ble_eq_true rfl) (Nat.le_of_ble_eq_true rfl) (Nat.zero_le _) (Nat.zero_le _) dJ1_indexOf_4cfef_11 ?_
    refine lv_topi (fun mm5 emm5 => ?_)
    replace hf := nm_i emm5 hf
    refine lv_istore_n (lv' := [(2, .int mm5), (0, .ref (adV i)), (1, .int a1), (3, .int a3)]) hx hb dJ1_indexOf_4cfef_14 rfl hl (by decide) rfl (fun ls hl => ?_)
    refine lv_iload_n hx hb dJ1_indexOf_4cfef_15 rfl (lv_at hl 3 rfl) ?_
    refine lv_aload_n hx hb dJ1_indexOf_4cfef_16 rfl (lv_at hl 1 rfl) ?_
    refine va_tlen (v := (nI (lnS.getD i 0))) hx hb (hStr.1.1 i hi4).2.2.2 hS rfl dJ1_indexOf_4cfef_17 ?_
    refine va_mmin hx hb (by rw [hml]; exact hl.1.symm) hown (hts _ m_methodLink_java_lang_StringLatin1_38_java_lang_Math_min_II_I) (hts _ m_static_java_lang_Math_min_II_I) (hts _ m_initialized_java_lang_Math) (hts _ m_code_java_lang_Math_min_II_I) (Nat.le_of_ble_eq_true rfl) (Nat.le_of_ble_eq_true rfl) (Nat.zero_le _) (Nat.zero_le _) dJ1_indexOf_4cfef_18 ?_
    refine lv_topi (fun mm6 emm6 => ?_)
    replace hf := nm_i emm6 hf
    refine lv_istore_n (lv' := [(3, .int mm6), (2, .int mm5), (0, .ref (adV i)), (1, .int a1)]) hx hb dJ1_indexOf_4cfef_21 rfl hl (by decide) rfl (fun ls hl => ?_)
    refine lv_iload_n hx hb dJ1_indexOf_4cfef_22 rfl (lv_at hl 1 rfl) ?_
    refine lv_iload_n hx hb dJ1_indexOf_4cfef_23 rfl (lv_at hl 0 rfl) ?_
    refine lv_icmp_lt (tgt := 29) hx hb dJ1_indexOf_4cfef_24 (by decide) (fun c7 => ?_) (fun c7 => ?_)
    · replace hf := it_of c7 hf
      refine lv_aload_n hx hb dJ1_indexOf_4cfef_29 rfl (lv_at hl 2 rfl) ?_
      refine lv_iload_n hx hb dJ1_indexOf_4cfef_30 rfl (lv_at hl 3 rfl) ?_
      refine lv_iload_n hx hb dJ1_indexOf_4cfef_31 rfl (lv_at hl 1 rfl) ?_
      refine lv_iload_n hx hb dJ1_indexOf_4cfef_32 rfl (lv_at hl 0 rfl) ?_
      obtain ⟨r8q, hq9, hf⟩ := b1_of hf
      refine callSIs (As := [.ref (adV i), .int a1, .int mm5, .int mm6]) (rest := []) (wr := ([] : va_W)) C0 (c_J1_indexOfChar_4cfef i a1 mm5 mm6 hi4 _ hq9) lk_J1_95_J1_indexOfChar_4cfef rfl hStr hP hD hS (List.Perm.refl _) hl.1 rfl rfl (Nat.le_of_ble_eq_true rfl) dJ1_indexOf_4cfef_33 ⟨Nat.zero_le _, Nat.zero_le _⟩ (fun r8 w H locs hw hP hD hS => ?_)
      obtain ⟨e1, e2⟩ := hw
      replace e1 : r8 = r8q := e1
      subst e1
      subst e2
      replace hP : va_P D vwCl ([] : va_W) H := hP
      replace hD : va_D A ([] : va_W) := hD
      rw [hQ]
      exact ret_i C0 hP hD hS (by have e := Option.some.inj hf; rw [← e]; exact ⟨rfl, rfl⟩) dJ1_indexOf_4cfef_36
    · replace hf := ie_of c7 hf
      refine lv_iconst (v := (-1)) hx hb dJ1_indexOf_4cfef_27 (by decide) ?_
      rw [hQ]
      exact ret_i C0 hP hD hS (by have e := Option.some.inj hf; rw [← e]; exact ⟨rfl, rfl⟩) dJ1_indexOf_4cfef_28
  · replace hf := it_of c4 hf
    refine lv_iconst (v := (-1)) hx hb dJ1_indexOf_4cfef_7 (by decide) ?_
    rw [hQ]
    exact ret_i C0 hP hD hS (by have e := Option.some.inj hf; rw [← e]; exact ⟨rfl, rfl⟩) dJ1_indexOf_4cfef_8
noncomputable def k_J0_indexOf_7cf53 (i : Nat) (a1 : Int32) (a2 : Int32) : Option Int32 := b1 (k_J0_isLatin1_aae02 ) (fun r1 => b1 (k_J0_length_8abf5 i) (fun r4 => b1 (k_J1_indexOf_4cfef i a1 a2 r4) (fun r6 => some r6)))
set_option maxHeartbeats 4000000 in
set_option maxRecDepth 100000 in
theorem c_J0_indexOf_7cf53 {l : Launch} {D : va_G} {cA : Nat → ClassId} {adK adV : Nat → Nat} (i : Nat)  (a1 : Int32) (a2 : Int32) (hi4 : i < 4) (o : Int32) (hf : k_J0_indexOf_7cf53 i a1 a2 = some o) : CIs l D cA adK adV yJ0_indexOf_7cf53 cJ0_indexOf_7cf53 3 (some .int) 2 48 [.ref (adK i), .int a1, .int a2] ([] : va_W) 0 0 (fun r w => r = o ∧ w = ([] : va_W)) := by
  intro sz
  refine met_start_s (by decide) rfl ?_
  intro p e s m args below meth c ls hsz hargs C0 hname hStr hP hD hS hl
  generalize hAe : va_A ([] : va_W) sz = A at C0 hStr hD hS ⊢
  obtain ⟨hx, hb, hr, hml, hown, hts, hlk, hK, hA⟩ := id C0
  replace hl : lv_has ls 3 [(0, .ref (adK i)), (1, .int a1), (2, .int a2)] := hl
  obtain ⟨Q, hQ⟩ : ∃ Q : State → Prop, Q = QI below D A (fun r w => r = o ∧ w = ([] : va_W)) args s 0 0 := ⟨_, rfl⟩
  refine cast (by rw [hQ]) (?_ : W p l e (RMx 2 48 0 0) s m args below meth c s.heap [] 0 0 Q (F0 m 0 ls []))
  unfold k_J0_indexOf_7cf53 at hf
  refine lv_aload_n hx hb dJ0_indexOf_7cf53_0 rfl (lv_at hl 0 rfl) ?_
  obtain ⟨r1q, hq2, hf⟩ := b1_of hf
  refine callVIs (As := []) (rest := []) (wr := ([] : va_W)) C0 (c_J0_isLatin1_aae02 i hi4 _ hq2) lk_J0_492_J0_isLatin1_aae02 rfl hStr hP hD hS (List.Perm.refl _) (vk_recv hStr.1 hi4 hS) hl.1 rfl rfl (Nat.le_of_ble_eq_true rfl) dJ0_indexOf_7cf53_1 ⟨Nat.zero_le _, Nat.zero_le _⟩ (fun r1 w H locs hw hP hD hS => ?_)
  obtain ⟨⟨e1, e2⟩, z3⟩ := hw
  replace e1 : r1 = r1q := e1
  subst e1
  subst e2
  replace hP : va_P D vwCl ([] : va_W) H := hP
  replace hD : va_D A ([] : va_W) := hD
  obtain rfl : r1 = 1 := (Option.some.inj hq2).symm
  refine lv_if_eq (tgt := 23) hx hb dJ0_indexOf_7cf53_4 (by decide) (fun z => absurd z (by decide)) (fun _ => ?_)
  refine lv_aload_n hx hb dJ0_indexOf_7cf53_7 rfl (lv_at hl 0 rfl) ?_
  refine vk_getf (v := .ref (adV i)) hx hb (hStr.1.1 i hi4).2.2.1 hS hown (hts _ m_fieldLink_java_lang_String_9_java_lang_String_value_aB) (fun _ h9 => h9) dJ0_indexOf_7cf53_8 ?_
  refine lv_iload_n hx hb dJ0_indexOf_7cf53_11 rfl (lv_at hl 1 rfl) ?_
  refine lv_iload_n hx hb dJ0_indexOf_7cf53_12 rfl (lv_at hl 2 rfl) ?_
  refine lv_aload_n hx hb dJ0_indexOf_7cf53_13 rfl (lv_at hl 0 rfl) ?_
  obtain ⟨r4q, hq5, hf⟩ := b1_of hf
  refine callVIs (As := []) (rest := [.int a2, .int a1, .ref (adV i)]) (wr := ([] : va_W)) C0 (c_J0_length_8abf5 i hi4 _ hq5) lk_J0_505_J0_length_8abf5 rfl hStr hP hD hS (List.Perm.refl _) (vk_recv hStr.1 hi4 hS) hl.1 rfl rfl (Nat.le_of_ble_eq_true rfl) dJ0_indexOf_7cf53_14 ⟨Nat.zero_le _, Nat.zero_le _⟩ (fun r4 w H locs hw hP hD hS => ?_)
  obtain ⟨e1, e2⟩ := hw
  replace e1 : r4 = r4q := e1
  subst e1
  subst e2
  replace hP : va_P D vwCl ([] : va_W) H := hP
  replace hD : va_D A ([] : va_W) := hD
  obtain ⟨r6q, hq7, hf⟩ := b1_of hf
  refine callSIs (As := [.ref (adV i), .int a1, .int a2, .int r4]) (rest := []) (wr := ([] : va_W)) C0 (c_J1_indexOf_4cfef i a1 a2 r4 hi4 _ hq7) lk_J0_637_J1_indexOf_4cfef rfl hStr hP hD hS (List.Perm.refl _) hl.1 rfl rfl (Nat.le_of_ble_eq_true rfl) dJ0_indexOf_7cf53_17 ⟨Nat.zero_le _, Nat.zero_le _⟩ (fun r6 w H locs hw hP hD hS => ?_)
  obtain ⟨e1, e2⟩ := hw
  replace e1 : r6 = r6q := e1
  subst e1
  subst e2
  replace hP : va_P D vwCl ([] : va_W) H := hP
  replace hD : va_D A ([] : va_W) := hD
  refine lv_goto (tgt := 36) hx hb dJ0_indexOf_7cf53_20 (by decide) ?_
  rw [hQ]
  exact ret_i C0 hP hD hS (by have e := Option.some.inj hf; rw [← e]; exact ⟨rfl, rfl⟩) dJ0_indexOf_7cf53_36
noncomputable def k_J0_indexOf_0f7a4 (i : Nat) (a1 : Int32) : Option Int32 := b1 (k_J0_indexOf_7cf53 i a1 0) (fun r1 => some r1)
set_option maxHeartbeats 4000000 in
set_option maxRecDepth 100000 in
theorem c_J0_indexOf_0f7a4 {l : Launch} {D : va_G} {cA : Nat → ClassId} {adK adV : Nat → Nat} (i : Nat)  (a1 : Int32) (hi4 : i < 4) (o : Int32) (hf : k_J0_indexOf_0f7a4 i a1 = some o) : CIs l D cA adK adV yJ0_indexOf_0f7a4 cJ0_indexOf_0f7a4 2 (some .int) 3 70 [.ref (adK i), .int a1] ([] : va_W) 0 0 (fun r w => r = o ∧ w = ([] : va_W)) := by
  intro sz
  refine met_start_s (by decide) rfl ?_
  intro p e s m args below meth c ls hsz hargs C0 hname hStr hP hD hS hl
  generalize hAe : va_A ([] : va_W) sz = A at C0 hStr hD hS ⊢
  obtain ⟨hx, hb, hr, hml, hown, hts, hlk, hK, hA⟩ := id C0
  replace hl : lv_has ls 2 [(0, .ref (adK i)), (1, .int a1)] := hl
  obtain ⟨Q, hQ⟩ : ∃ Q : State → Prop, Q = QI below D A (fun r w => r = o ∧ w = ([] : va_W)) args s 0 0 := ⟨_, rfl⟩
  refine cast (by rw [hQ]) (?_ : W p l e (RMx 3 70 0 0) s m args below meth c s.heap [] 0 0 Q (F0 m 0 ls []))
  unfold k_J0_indexOf_0f7a4 at hf
  refine lv_aload_n hx hb dJ0_indexOf_0f7a4_0 rfl (lv_at hl 0 rfl) ?_
  refine lv_iload_n hx hb dJ0_indexOf_0f7a4_1 rfl (lv_at hl 1 rfl) ?_
  refine lv_iconst (v := 0) hx hb dJ0_indexOf_0f7a4_2 (by decide) ?_
  obtain ⟨r1q, hq2, hf⟩ := b1_of hf
  refine callVIs (As := [.int a1, .int 0]) (rest := []) (wr := ([] : va_W)) C0 (c_J0_indexOf_7cf53 i a1 0 hi4 _ hq2) lk_J0_633_J0_indexOf_7cf53 rfl hStr hP hD hS (List.Perm.refl _) (vk_recv hStr.1 hi4 hS) hl.1 rfl rfl (Nat.le_of_ble_eq_true rfl) dJ0_indexOf_0f7a4_3 ⟨Nat.zero_le _, Nat.zero_le _⟩ (fun r1 w H locs hw hP hD hS => ?_)
  obtain ⟨e1, e2⟩ := hw
  replace e1 : r1 = r1q := e1
  subst e1
  subst e2
  replace hP : va_P D vwCl ([] : va_W) H := hP
  replace hD : va_D A ([] : va_W) := hD
  rw [hQ]
  exact ret_i C0 hP hD hS (by have e := Option.some.inj hf; rw [← e]; exact ⟨rfl, rfl⟩) dJ0_indexOf_0f7a4_6

/-! THE CLAIM OUT OF ONE WALK OF THE LAW'S BODY. Your part is whole_start (and what it stands on); all else here is the same for every law, but numbers. -/
def R_law : String := "CellarPlotLaw"
def lw_P (b : Addr) (xs : List Int32) (args : Array Value) (s : State) : Prop := args = #[.ref b] ∧ s.IntsAt b xs ∧ xs.length ≤ 3072 ∧ (Jvm.Cond.and given_1 narrow_1).before args s = true
def lw_Q (_ : Array Value) (s : State) (o : Outcome) (t : State) : Prop := o = .returned (some (.int 1)) ∧ Framed s o t [] 600000 7302250
def lw_Z (below : List Frame) (a : Array Value) (s : State) : State → Prop := fun t => ∃ o, t.status = .running ∧ Ended t below o ∧ lw_Q a s o t
/-- the law's own end, with 1 on the stack, nothing written that was there before, its room as the claim has it -/
theorem lw_ret {p : Program} {l : Launch} {e : Env} {s : State} {m : MethodId} {below : List Frame} {meth : Method} {c : Code} {b : Nat} (hx : p.tables.exec = Jvm.exec) (hb : c.code = code) (hr : meth.sig.returnType = ret) (hlocks : meth.locks = false) {pc : Nat} {H : Heap} {ls : Array Slot} (hdg : decode code pc = .ok (.ireturn, 1)) : W p l e room_1 s m #[Value.ref b] below meth c H [] 600000 7302250 (lw_Z below #[Value.ref b] s) (F0 m pc ls [.int 1]) := by
  intro T hT X
  obtain ⟨fs, hret, hrun, hended, hW, hframe⟩ := X.leave (v := some (.int 1)) (hlocks := hlocks) (fun h => by rw [hr] at h; cases h)
  have hmeth' : T.vm.method? m = some meth := X.method'
  refine ⟨T.setFrames fs, ?_, .returned (some (.int 1)), hrun, hended, rfl, ⟨_, rfl⟩, hW, hframe⟩
  jvm_step X.here [X.here.top, hx, hb, hdg, hmeth', hr, ret, narrow_b1]
  (try refine ⟨rfl, ?_⟩); (try refine ⟨rfl, ?_⟩)
  first | (intro acts; rw [hret _ acts rfl rfl rfl]) | rw [hret _ _ rfl rfl rfl]
  exact Steps.refl _
/-- what holds at the law's entry: the machine, the code, the tables' words (any of lw_tbl by 'hts w (by decide +kernel)'), the script of L ints xs at the cell b, what the Statement gives of the start (any of its parts by flat_of_before) -/
def lw_At (p : Program) (s : State) (m : MethodId) (meth : Method) (c : Code) (b L : Nat) (xs : Nat → Int32) : Prop :=
  p.tables.exec = Jvm.exec ∧ c.code = code ∧ meth.sig.returnType = ret ∧ c.maxLocals = 4 ∧ s.vm.findClass R_law = some m.cls ∧ (∀ w ∈ lw_tbl, w.before #[Value.ref b] s = true) ∧ va_X b L xs s s.heap ∧ b < s.heap.size ∧ meth.locks = false ∧ (Jvm.Cond.and given_1 narrow_1).before #[Value.ref b] s = true
theorem law_inc {p : Program} {l : Launch} {e : Env} {s : State} {m : MethodId} {b : Nat} {below : List Frame} {meth : Method} {c : Code} {D : va_G} {A : Nat → Prop} {Q : State → Prop} {adK adV : Nat → Nat} {i0 N : Nat} {sx : Nat → Int32} {cells slots : Nat} {cA : Nat → ClassId} {oo : Nat} {qn : Nat → Nat} {qk : Nat → Nat} {qt : Nat → Nat} {qx : Nat → Nat} {qa : Nat → Nat} {ts : Nat} {wa : Nat} {qs : Nat → Nat → Nat} {h : Nat} {q : Nat → Nat} (C : LCx p s m b meth c D cA A adK adV N sx) (hi : i0 ≤ 100000) (K : LGo p l e s m b below meth c D A Q cA oo qn qk qt qx qa ts wa qs h q (i0 + 6) 18 cells slots) : LGo p l e s m b below meth c D A Q cA oo qn qk qt qx qa ts wa qs h q i0 1164 cells slots := by
  intro qc tpf tpi pf sp nf ng nc nv nhc nha nhb npc npa npb nbc nba nbb kf kg kc kv khc kha khb kpc kpa kpb kbc kba kbb tf tg tc tv thc tha thb tpc tpa tpb tbc tba tbb xf xs xv af ab wt cn cf cg fi fs ga gs pl it asd H locs ls hR hP hD hS hl
  obtain ⟨C0, hStr, hX, hbl, hbA⟩ := id C
  obtain ⟨hx, hb, hr, hml, hown, hts, hlk, hK, hA⟩ := id C0
  refine lv_iinc (v := nI (i0 + 6)) (lv' := [(3, .int (nI (i0 + 6))), (2, .ref h), (1, .ref oo), (0, .ref b)]) hx hb dL_law_1164 hl (k := 0) rfl (nI_add i0 6) (by decide) rfl (fun ls hl => ?_)
  refine lv_goto (tgt := 18) hx hb dL_law_1167 (by decide) ?_
  exact K qc tpf tpi pf sp nf ng nc nv nhc nha nhb npc npa npb nbc nba nbb kf kg kc kv khc kha khb kpc kpa kpb kbc kba kbb tf tg tc tv thc tha thb tpc tpa tpb tbc tba tbb xf xs xv af ab wt cn cf cg fi fs ga gs pl it asd H locs ls hR hP hD hS hl
set_option maxHeartbeats 4000000 in
set_option maxRecDepth 100000 in
theorem law_disp {p : Program} {l : Launch} {e : Env} {s : State} {m : MethodId} {b : Nat} {below : List Frame} {meth : Method} {c : Code} {D : va_G} {A : Nat → Prop} {Q : State → Prop} {adK adV : Nat → Nat} {i0 N : Nat} {sx : Nat → Int32} {cells slots : Nat} {cA : Nat → ClassId} {oo : Nat} {qn : Nat → Nat} {qk : Nat → Nat} {qt : Nat → Nat} {qx : Nat → Nat} {qa : Nat → Nat} {ts : Nat} {wa : Nat} {qs : Nat → Nat → Nat} {h : Nat} {q : Nat → Nat} (C : LCx p s m b meth c D cA A adK adV N sx) (hi : i0 + 6 ≤ N) (hN : N ≤ 3072) (hc : cells + 7 ≤ 600000) (hs : slots + 339 ≤ 7302250) (K : LGo p l e s m b below meth c D A Q cA oo qn qk qt qx qa ts wa qs h q i0 1164 (cells + 7) (slots + 339)) : LGo p l e s m b below meth c D A Q cA oo qn qk qt qx qa ts wa qs h q i0 27 cells slots := by
  intro qc tpf tpi pf sp nf ng nc nv nhc nha nhb npc npa npb nbc nba nbb kf kg kc kv khc kha khb kpc kpa kpb kbc kba kbb tf tg tc tv thc tha thb tpc tpa tpb tbc tba tbb xf xs xv af ab wt cn cf cg fi fs ga gs pl it asd H locs ls hR hP hD hS hl
  obtain ⟨C0, hStr, hX, hbl, hbA⟩ := id C
  obtain ⟨hx, hb, hr, hml, hown, hts, hlk, hK, hA⟩ := id C0
  refine lv_aload_n hx hb dL_law_27 rfl (lv_at hl 3 rfl) ?_
  refine lv_iload_n hx hb dL_law_28 rfl (lv_at hl 0 rfl) ?_
  refine va_sld hx hb hX hbl hbA hS (nI_in (by omega) (by omega)) dL_law_29 ?_
  refine lv_bipush (v := 31) hx hb dL_law_30 (by decide) ?_
  refine lv_iand hx hb dL_law_32 ?_
  obtain ⟨j, hj, e⟩ := pk_andE (sx (nI i0).toNatClampNeg) (m := 31) 5 (by decide)
  rw [e]
  match j, hj with
  | 0, _ =>
    refine lv_tableIn (off := 139) (tgt := 172) (x := nI 0) hx hb dL_law_33 (by decide) (by decide) (by decide) (by decide) ?_
    exact law_man C hi hN hc hs K qc tpf tpi pf sp nf ng nc nv nhc nha nhb npc npa npb nbc nba nbb kf kg kc kv khc kha khb kpc kpa kpb kbc kba kbb tf tg tc tv thc tha thb tpc tpa tpb tbc tba tbb xf xs xv af ab wt cn cf cg fi fs ga gs pl it asd H locs ls hR hP hD hS hl
  | 1, _ =>
    refine lv_tableIn (off := 182) (tgt := 215) (x := nI 1) hx hb dL_law_33 (by decide) (by decide) (by decide) (by decide) ?_
    exact law_of C hi hN hc hs K qc tpf tpi pf sp nf ng nc nv nhc nha nhb npc npa npb nbc nba nbb kf kg kc kv khc kha khb kpc kpa kpb kbc kba kbb tf tg tc tv thc tha thb tpc tpa tpb tbc tba tbb xf xs xv af ab wt cn cf cg fi fs ga gs pl it asd H locs ls hR hP hD hS hl
  | 2, _ =>
    refine lv_tableIn (off := 215) (tgt := 248) (x := nI 2) hx hb dL_law_33 (by decide) (by decide) (by decide) (by decide) ?_
    exact law_steady C hi hN hc hs K qc tpf tpi pf sp nf ng nc nv nhc nha nhb npc npa npb nbc nba nbb kf kg kc kv khc kha khb kpc kpa kpb kbc kba kbb tf tg tc tv thc tha thb tpc tpa tpb tbc tba tbb xf xs xv af ab wt cn cf cg fi fs ga gs pl it asd H locs ls hR hP hD hS hl
  | 3, _ =>
    refine lv_tableIn (off := 248) (tgt := 281) (x := nI 3) hx hb dL_law_33 (by decide) (by decide) (by decide) (by decide) ?_
    exact law_change C hi hN hc hs K qc tpf tpi pf sp nf ng nc nv nhc nha nhb npc npa npb nbc nba nbb kf kg kc kv khc kha khb kpc kpa kpb kbc kba kbb tf tg tc tv thc tha thb tpc tpa tpb tbc tba tbb xf xs xv af ab wt cn cf cg fi fs ga gs pl it asd H locs ls hR hP hD hS hl
  | 4, _ =>
    refine lv_tableIn (off := 297) (tgt := 330) (x := nI 4) hx hb dL_law_33 (by decide) (by decide) (by decide) (by decide) ?_
    exact law_fear C hi hN hc hs K qc tpf tpi pf sp nf ng nc nv nhc nha nhb npc npa npb nbc nba nbb kf kg kc kv khc kha khb kpc kpa kpb kbc kba kbb tf tg tc tv thc tha thb tpc tpa tpb tbc tba tbb xf xs xv af ab wt cn cf cg fi fs ga gs pl it asd H locs ls hR hP hD hS hl
  | 5, _ =>
    refine lv_tableIn (off := 320) (tgt := 353) (x := nI 5) hx hb dL_law_33 (by decide) (by decide) (by decide) (by decide) ?_
    exact law_row C hi hN hc hs K qc tpf tpi pf sp nf ng nc nv nhc nha nhb npc npa npb nbc nba nbb kf kg kc kv khc kha khb kpc kpa kpb kbc kba kbb tf tg tc tv thc tha thb tpc tpa tpb tbc tba tbb xf xs xv af ab wt cn cf cg fi fs ga gs pl it asd H locs ls hR hP hD hS hl
  | 6, _ =>
    refine lv_tableIn (off := 363) (tgt := 396) (x := nI 6) hx hb dL_law_33 (by decide) (by decide) (by decide) (by decide) ?_
    exact law_feed C hi hN hc hs K qc tpf tpi pf sp nf ng nc nv nhc nha nhb npc npa npb nbc nba nbb kf kg kc kv khc kha khb kpc kpa kpb kbc kba kbb tf tg tc tv thc tha thb tpc tpa tpb tbc tba tbb xf xs xv af ab wt cn cf cg fi fs ga gs pl it asd H locs ls hR hP hD hS hl
  | 7, _ =>
    refine lv_tableIn (off := 386) (tgt := 419) (x := nI 7) hx hb dL_law_33 (by decide) (by decide) (by decide) (by decide) ?_
    exact law_charter C hi hN hc hs K qc tpf tpi pf sp nf ng nc nv nhc nha nhb npc npa npb nbc nba nbb kf kg kc kv khc kha khb kpc kpa kpb kbc kba kbb tf tg tc tv thc tha thb tpc tpa tpb tbc tba tbb xf xs xv af ab wt cn cf cg fi fs ga gs pl it asd H locs ls hR hP hD hS hl
  | 8, _ =>
    refine lv_tableIn (off := 399) (tgt := 432) (x := nI 8) hx hb dL_law_33 (by decide) (by decide) (by decide) (by decide) ?_
    exact law_told C hi hN hc hs K qc tpf tpi pf sp nf ng nc nv nhc nha nhb npc npa npb nbc nba nbb kf kg kc kv khc kha khb kpc kpa kpb kbc kba kbb tf tg tc tv thc tha thb tpc tpa tpb tbc tba tbb xf xs xv af ab wt cn cf cg fi fs ga gs pl it asd H locs ls hR hP hD hS hl
  | 9, _ =>
    refine lv_tableIn (off := 422) (tgt := 455) (x := nI 9) hx hb dL_law_33 (by decide) (by decide) (by decide) (by decide) ?_
    exact law_pass C hi hN hc hs K qc tpf tpi pf sp nf ng nc nv nhc nha nhb npc npa npb nbc nba nbb kf kg kc kv khc kha khb kpc kpa kpb kbc kba kbb tf tg tc tv thc tha thb tpc tpa tpb tbc tba tbb xf xs xv af ab wt cn cf cg fi fs ga gs pl it asd H locs ls hR hP hD hS hl
  | 10, _ =>
    refine lv_tableIn (off := 445) (tgt := 478) (x := nI 10) hx hb dL_law_33 (by decide) (by decide) (by decide) (by decide) ?_
    exact law_on C hi hN hc hs K qc tpf tpi pf sp nf ng nc nv nhc nha nhb npc npa npb nbc nba nbb kf kg kc kv khc kha khb kpc kpa kpb kbc kba kbb tf tg tc tv thc tha thb tpc tpa tpb tbc tba tbb xf xs xv af ab wt cn cf cg fi fs ga gs pl it asd H locs ls hR hP hD hS hl
  | 11, _ =>
    refine lv_tableIn (off := 478) (tgt := 511) (x := nI 11) hx hb dL_law_33 (by decide) (by decide) (by decide) (by decide) ?_
    exact law_best C hi hN hc hs K qc tpf tpi pf sp nf ng nc nv nhc nha nhb npc npa npb nbc nba nbb kf kg kc kv khc kha khb kpc kpa kpb kbc kba kbb tf tg tc tv thc tha thb tpc tpa tpb tbc tba tbb xf xs xv af ab wt cn cf cg fi fs ga gs pl it asd H locs ls hR hP hD hS hl
  | 12, _ =>
    refine lv_tableIn (off := 511) (tgt := 544) (x := nI 12) hx hb dL_law_33 (by decide) (by decide) (by decide) (by decide) ?_
    exact law_hear C hi hN hc hs K qc tpf tpi pf sp nf ng nc nv nhc nha nhb npc npa npb nbc nba nbb kf kg kc kv khc kha khb kpc kpa kpb kbc kba kbb tf tg tc tv thc tha thb tpc tpa tpb tbc tba tbb xf xs xv af ab wt cn cf cg fi fs ga gs pl it asd H locs ls hR hP hD hS hl
  | 13, _ =>
    refine lv_tableIn (off := 544) (tgt := 577) (x := nI 13) hx hb dL_law_33 (by decide) (by decide) (by decide) (by decide) ?_
    exact law_can C hi hN hc hs K qc tpf tpi pf sp nf ng nc nv nhc nha nhb npc npa npb nbc nba nbb kf kg kc kv khc kha khb kpc kpa kpb kbc kba kbb tf tg tc tv thc tha thb tpc tpa tpb tbc tba tbb xf xs xv af ab wt cn cf cg fi fs ga gs pl it asd H locs ls hR hP hD hS hl
  | 14, _ =>
    refine lv_tableIn (off := 577) (tgt := 610) (x := nI 14) hx hb dL_law_33 (by decide) (by decide) (by decide) (by decide) ?_
    exact law_odds C hi hN hc hs K qc tpf tpi pf sp nf ng nc nv nhc nha nhb npc npa npb nbc nba nbb kf kg kc kv khc kha khb kpc kpa kpb kbc kba kbb tf tg tc tv thc tha thb tpc tpa tpb tbc tba tbb xf xs xv af ab wt cn cf cg fi fs ga gs pl it asd H locs ls hR hP hD hS hl
  | 15, _ =>
    refine lv_tableIn (off := 611) (tgt := 644) (x := nI 15) hx hb dL_law_33 (by decide) (by decide) (by decide) (by decide) ?_
    exact law_mean C hi hN hc hs K qc tpf tpi pf sp nf ng nc nv nhc nha nhb npc npa npb nbc nba nbb kf kg kc kv khc kha khb kpc kpa kpb kbc kba kbb tf tg tc tv thc tha thb tpc tpa tpb tbc tba tbb xf xs xv af ab wt cn cf cg fi fs ga gs pl it asd H locs ls hR hP hD hS hl
  | 16, _ =>
    refine lv_tableIn (off := 635) (tgt := 668) (x := nI 16) hx hb dL_law_33 (by decide) (by decide) (by decide) (by decide) ?_
    exact law_plan C hi hN hc hs K qc tpf tpi pf sp nf ng nc nv nhc nha nhb npc npa npb nbc nba nbb kf kg kc kv khc kha khb kpc kpa kpb kbc kba kbb tf tg tc tv thc tha thb tpc tpa tpb tbc tba tbb xf xs xv af ab wt cn cf cg fi fs ga gs pl it asd H locs ls hR hP hD hS hl
  | 17, _ =>
    refine lv_tableIn (off := 668) (tgt := 701) (x := nI 17) hx hb dL_law_33 (by decide) (by decide) (by decide) (by decide) ?_
    exact law_ends C hi hN hc hs K qc tpf tpi pf sp nf ng nc nv nhc nha nhb npc npa npb nbc nba nbb kf kg kc kv khc kha khb kpc kpa kpb kbc kba kbb tf tg tc tv thc tha thb tpc tpa tpb tbc tba tbb xf xs xv af ab wt cn cf cg fi fs ga gs pl it asd H locs ls hR hP hD hS hl
  | 18, _ =>
    refine lv_tableIn (off := 691) (tgt := 724) (x := nI 18) hx hb dL_law_33 (by decide) (by decide) (by decide) (by decide) ?_
    exact law_book C hi hN hc hs K qc tpf tpi pf sp nf ng nc nv nhc nha nhb npc npa npb nbc nba nbb kf kg kc kv khc kha khb kpc kpa kpb kbc kba kbb tf tg tc tv thc tha thb tpc tpa tpb tbc tba tbb xf xs xv af ab wt cn cf cg fi fs ga gs pl it asd H locs ls hR hP hD hS hl
  | 19, _ =>
    refine lv_tableIn (off := 724) (tgt := 757) (x := nI 19) hx hb dL_law_33 (by decide) (by decide) (by decide) (by decide) ?_
    exact law_looked C hi hN hc hs K qc tpf tpi pf sp nf ng nc nv nhc nha nhb npc npa npb nbc nba nbb kf kg kc kv khc kha khb kpc kpa kpb kbc kba kbb tf tg tc tv thc tha thb tpc tpa tpb tbc tba tbb xf xs xv af ab wt cn cf cg fi fs ga gs pl it asd H locs ls hR hP hD hS hl
  | 20, _ =>
    refine lv_tableIn (off := 737) (tgt := 770) (x := nI 20) hx hb dL_law_33 (by decide) (by decide) (by decide) (by decide) ?_
    exact law_judge C hi hN hc hs K qc tpf tpi pf sp nf ng nc nv nhc nha nhb npc npa npb nbc nba nbb kf kg kc kv khc kha khb kpc kpa kpb kbc kba kbb tf tg tc tv thc tha thb tpc tpa tpb tbc tba tbb xf xs xv af ab wt cn cf cg fi fs ga gs pl it asd H locs ls hR hP hD hS hl
  | 21, _ =>
    refine lv_tableIn (off := 770) (tgt := 803) (x := nI 21) hx hb dL_law_33 (by decide) (by decide) (by decide) (by decide) ?_
    exact law_image C hi hN hc hs K qc tpf tpi pf sp nf ng nc nv nhc nha nhb npc npa npb nbc nba nbb kf kg kc kv khc kha khb kpc kpa kpb kbc kba kbb tf tg tc tv thc tha thb tpc tpa tpb tbc tba tbb xf xs xv af ab wt cn cf cg fi fs ga gs pl it asd H locs ls hR hP hD hS hl
  | 22, _ =>
    refine lv_tableIn (off := 783) (tgt := 816) (x := nI 22) hx hb dL_law_33 (by decide) (by decide) (by decide) (by decide) ?_
    exact law_undo C hi hN hc hs K qc tpf tpi pf sp nf ng nc nv nhc nha nhb npc npa npb nbc nba nbb kf kg kc kv khc kha khb kpc kpa kpb kbc kba kbb tf tg tc tv thc tha thb tpc tpa tpb tbc tba tbb xf xs xv af ab wt cn cf cg fi fs ga gs pl it asd H locs ls hR hP hD hS hl
  | 23, _ =>
    refine lv_tableIn (off := 796) (tgt := 829) (x := nI 23) hx hb dL_law_33 (by decide) (by decide) (by decide) (by decide) ?_
    exact law_act C hi hN hc hs K qc tpf tpi pf sp nf ng nc nv nhc nha nhb npc npa npb nbc nba nbb kf kg kc kv khc kha khb kpc kpa kpb kbc kba kbb tf tg tc tv thc tha thb tpc tpa tpb tbc tba tbb xf xs xv af ab wt cn cf cg fi fs ga gs pl it asd H locs ls hR hP hD hS hl
  | 24, _ =>
    refine lv_tableIn (off := 839) (tgt := 872) (x := nI 24) hx hb dL_law_33 (by decide) (by decide) (by decide) (by decide) ?_
    exact law_trace C hi hN hc hs K qc tpf tpi pf sp nf ng nc nv nhc nha nhb npc npa npb nbc nba nbb kf kg kc kv khc kha khb kpc kpa kpb kbc kba kbb tf tg tc tv thc tha thb tpc tpa tpb tbc tba tbb xf xs xv af ab wt cn cf cg fi fs ga gs pl it asd H locs ls hR hP hD hS hl
  | 25, _ =>
    refine lv_tableIn (off := 862) (tgt := 895) (x := nI 25) hx hb dL_law_33 (by decide) (by decide) (by decide) (by decide) ?_
    exact law_taken C hi hN hc hs K qc tpf tpi pf sp nf ng nc nv nhc nha nhb npc npa npb nbc nba nbb kf kg kc kv khc kha khb kpc kpa kpb kbc kba kbb tf tg tc tv thc tha thb tpc tpa tpb tbc tba tbb xf xs xv af ab wt cn cf cg fi fs ga gs pl it asd H locs ls hR hP hD hS hl
  | 26, _ =>
    refine lv_tableIn (off := 895) (tgt := 928) (x := nI 26) hx hb dL_law_33 (by decide) (by decide) (by decide) (by decide) ?_
    exact law_count C hi hN hc hs K qc tpf tpi pf sp nf ng nc nv nhc nha nhb npc npa npb nbc nba nbb kf kg kc kv khc kha khb kpc kpa kpb kbc kba kbb tf tg tc tv thc tha thb tpc tpa tpb tbc tba tbb xf xs xv af ab wt cn cf cg fi fs ga gs pl it asd H locs ls hR hP hD hS hl
  | 27, _ =>
    refine lv_tableIn (off := 918) (tgt := 951) (x := nI 27) hx hb dL_law_33 (by decide) (by decide) (by decide) (by decide) ?_
    exact law_tape C hi hN hc hs K qc tpf tpi pf sp nf ng nc nv nhc nha nhb npc npa npb nbc nba nbb kf kg kc kv khc kha khb kpc kpa kpb kbc kba kbb tf tg tc tv thc tha thb tpc tpa tpb tbc tba tbb xf xs xv af ab wt cn cf cg fi fs ga gs pl it asd H locs ls hR hP hD hS hl
  | 28, _ =>
    refine lv_tableIn (off := 961) (tgt := 994) (x := nI 28) hx hb dL_law_33 (by decide) (by decide) (by decide) (by decide) ?_
    exact law_item C hi hN hc hs K qc tpf tpi pf sp nf ng nc nv nhc nha nhb npc npa npb nbc nba nbb kf kg kc kv khc kha khb kpc kpa kpb kbc kba kbb tf tg tc tv thc tha thb tpc tpa tpb tbc tba tbb xf xs xv af ab wt cn cf cg fi fs ga gs pl it asd H locs ls hR hP hD hS hl
  | 29, _ =>
    refine lv_tableIn (off := 1034) (tgt := 1067) (x := nI 29) hx hb dL_law_33 (by decide) (by decide) (by decide) (by decide) ?_
    exact law_read C hi hN hc hs K qc tpf tpi pf sp nf ng nc nv nhc nha nhb npc npa npb nbc nba nbb kf kg kc kv khc kha khb kpc kpa kpb kbc kba kbb tf tg tc tv thc tha thb tpc tpa tpb tbc tba tbb xf xs xv af ab wt cn cf cg fi fs ga gs pl it asd H locs ls hR hP hD hS hl
  | 30, _ =>
    refine lv_tableIn (off := 1068) (tgt := 1101) (x := nI 30) hx hb dL_law_33 (by decide) (by decide) (by decide) (by decide) ?_
    exact law_shift C hi hN hc hs K qc tpf tpi pf sp nf ng nc nv nhc nha nhb npc npa npb nbc nba nbb kf kg kc kv khc kha khb kpc kpa kpb kbc kba kbb tf tg tc tv thc tha thb tpc tpa tpb tbc tba tbb xf xs xv af ab wt cn cf cg fi fs ga gs pl it asd H locs ls hR hP hD hS hl
  | 31, _ =>
    refine lv_tableOut (tgt := 1164) (x := nI 31) hx hb dL_law_33 (Or.inr (by decide)) (by decide) ?_
    refine W.widen (k := cells + 7) (n := slots + 339) (by omega) (by omega) ?_
    exact K qc tpf tpi pf sp nf ng nc nv nhc nha nhb npc npa npb nbc nba nbb kf kg kc kv khc kha khb kpc kpa kpb kbc kba kbb tf tg tc tv thc tha thb tpc tpa tpb tbc tba tbb xf xs xv af ab wt cn cf cg fi fs ga gs pl it asd H locs ls hR hP hD hS hl
  | k + 32, h => exact absurd h (by omega)
theorem law_end {p : Program} {l : Launch} {e : Env} {s : State} {m : MethodId} {b : Nat} {below : List Frame} {meth : Method} {c : Code} {D : va_G} {A : Nat → Prop} {Q : State → Prop} {adK adV : Nat → Nat} {i0 N : Nat} {sx : Nat → Int32}  {cA : Nat → ClassId} {oo : Nat} {qn : Nat → Nat} {qk : Nat → Nat} {qt : Nat → Nat} {qx : Nat → Nat} {qa : Nat → Nat} {ts : Nat} {wa : Nat} {qs : Nat → Nat → Nat} {h : Nat} {q : Nat → Nat} (hE : A = fun a : Nat => s.heap.size ≤ a) (hQ : Q = lw_Z below #[.ref b] s) (C : LCx p s m b meth c D cA A adK adV N sx) : LGo p l e s m b below meth c D A Q cA oo qn qk qt qx qa ts wa qs h q i0 1170 600000 7302250 := by
  intro qc tpf tpi pf sp nf ng nc nv nhc nha nhb npc npa npb nbc nba nbb kf kg kc kv khc kha khb kpc kpa kpb kbc kba kbb tf tg tc tv thc tha thb tpc tpa tpb tbc tba tbb xf xs xv af ab wt cn cf cg fi fs ga gs pl it asd H locs ls hR hP hD hS hl
  obtain ⟨C0, hStr, hX, hbl, hbA⟩ := id C
  obtain ⟨hx, hb, hr, hml, hown, hts, hlk, hK, hA⟩ := id C0
  refine lv_iconst (v := 1) hx hb dL_law_1170 (by decide) ?_
  subst hE
  subst hQ
  refine va_forget hS.2.2 ?_
  exact lw_ret hx hb hr hlk dL_law_1171
set_option maxHeartbeats 4000000 in
set_option maxRecDepth 100000 in
theorem law_loop {p : Program} {l : Launch} {e : Env} {s : State} {m : MethodId} {b : Nat} {below : List Frame} {meth : Method} {c : Code} {D : va_G} {A : Nat → Prop} {Q : State → Prop} {adK adV : Nat → Nat} {N : Nat} {sx : Nat → Int32}  {cA : Nat → ClassId} {oo : Nat} {qn : Nat → Nat} {qk : Nat → Nat} {qt : Nat → Nat} {qx : Nat → Nat} {qa : Nat → Nat} {ts : Nat} {wa : Nat} {qs : Nat → Nat → Nat} {h : Nat} {q : Nat → Nat} (hE : A = fun a : Nat => s.heap.size ≤ a) (hQ : Q = lw_Z below #[.ref b] s) (C : LCx p s m b meth c D cA A adK adV N sx) (hN : N ≤ 3072) : ∀ (r i0 cells slots : Nat), N < i0 + 6 * r → i0 ≤ 3078 → cells + 7 * r ≤ 600000 → slots + 339 * r ≤ 7302250 → LGo p l e s m b below meth c D A Q cA oo qn qk qt qx qa ts wa qs h q i0 18 cells slots
  | r, i0, cells, slots, hr0, hi, hc, hs => by
    intro qc tpf tpi pf sp nf ng nc nv nhc nha nhb npc npa npb nbc nba nbb kf kg kc kv khc kha khb kpc kpa kpb kbc kba kbb tf tg tc tv thc tha thb tpc tpa tpb tbc tba tbb xf xs xv af ab wt cn cf cg fi fs ga gs pl it asd H locs ls hR hP hD hS hl
    obtain ⟨C0, hStr, hX, hbl, hbA⟩ := id C
    obtain ⟨hx, hb, hr, hml, hown, hts, hlk, hK, hA⟩ := id C0
    refine lv_iload_n hx hb dL_law_18 rfl (lv_at hl 0 rfl) ?_
    refine lv_aload_n hx hb dL_law_19 rfl (lv_at hl 3 rfl) ?_
    refine va_slen hx hb hX hbl hbA hS dL_law_20 ?_
    refine lv_bipush (v := 6) hx hb dL_law_21 (by decide) ?_
    refine lv_isub hx hb dL_law_23 ?_
    have ek : (nI N - nI 6 < nI i0) ↔ N < i0 + 6 := by
      rw [Int32.lt_iff_toInt_lt, pk_sub_toInt (by omega) (by omega), nI_toInt (by omega)]; omega
    refine lv_icmp_gt (tgt := 1170) hx hb dL_law_24 (by decide) (fun c9 => ?_) (fun c9 => ?_)
    · refine W.widen (k := 600000) (n := 7302250) (by omega) (by omega) ?_
      exact law_end hE hQ C qc tpf tpi pf sp nf ng nc nv nhc nha nhb npc npa npb nbc nba nbb kf kg kc kv khc kha khb kpc kpa kpb kbc kba kbb tf tg tc tv thc tha thb tpc tpa tpb tbc tba tbb xf xs xv af ab wt cn cf cg fi fs ga gs pl it asd H locs ls hR hP hD hS hl
    · have hlt : ¬ N < i0 + 6 := fun y => c9 (ek.mpr y)
      rcases r with _ | r
      · omega
      · exact law_disp C (by omega) hN (by omega) (by omega) (law_inc C (by omega) (law_loop hE hQ C hN r (i0 + 6) (cells + 7) (slots + 339) (by omega) (by omega) (by omega) (by omega))) qc tpf tpi pf sp nf ng nc nv nhc nha nhb npc npa npb nbc nba nbb kf kg kc kv khc kha khb kpc kpa kpb kbc kba kbb tf tg tc tv thc tha thb tpc tpa tpb tbc tba tbb xf xs xv af ab wt cn cf cg fi fs ga gs pl it asd H locs ls hR hP hD hS hl
theorem rr_init : RR (fun _ k => if k = 0 then -1 else 0) (fun _ _ => 0) (fun _ => 0) none (fun _ => 0) (fun _ _ => 0) none 0 (fun _ => 0) (fun _ => 0) 0 (fun _ => 0) (fun _ => 0) 0 (fun _ => 0) (fun _ => 0) (fun _ => 0) (fun _ _ => 0) none 0 (fun _ => 0) (fun _ => 0) 0 (fun _ => 0) (fun _ => 0) 0 (fun _ => 0) (fun _ => 0) none (fun _ => 0) (fun _ => 0) (fun _ => 0) (fun _ => 0) 0 (fun _ _ => 0) (fun _ _ _ => 0) (fun k => if k = 12 then (-1) else if k = 46 then (-1) else 0) (fun k => if k = 29 then 9999 else 0) (fun k => if k = 27 then (upd (upd (upd (upd (upd (upd (upd (upd (upd (upd (upd (upd (fun _ => 0) 0 108) 1 111) 2 117) 3 100) 4 104) 5 117) 6 115) 7 104) 8 99) 9 97) 10 108) 11 109) else if k = 69 then (upd (upd (upd (upd (upd (upd (fun _ => 0) 0 (-1)) 1 (-1)) 2 (-1)) 3 (-1)) 4 (-1)) 5 (-1)) else (fun _ => 0)) (fun _ => 0) := by
  refine ⟨0, fun _ => [], fun _ => 0, fun _ _ => 0, 0, fun _ => 0, fun _ => 0, 0, fun _ => 0, fun _ => 0, 0, fun _ => 0, fun _ => 0, 0, fun _ => 0, 0, fun _ => 0, ?_, ⟨by omega, rfl, fun i hi => by omega⟩, ⟨by omega, rfl, fun i hi => by omega⟩, ⟨by omega, rfl, fun i hi => by omega⟩, ⟨Nat.zero_le _, by decide, Nat.zero_le _, Nat.zero_le _, Nat.zero_le _, Nat.zero_le _, fun p hp => ⟨Nat.zero_le _, Nat.zero_le _, Nat.zero_le _, Nat.zero_le _⟩, fun k hk => Nat.zero_le _⟩, ?_, rfl, ⟨rfl, fun i hi => by omega⟩, ⟨rfl, fun i hi => by omega⟩, ⟨rfl, fun i hi => by omega⟩, fun j e => by (cases e), ⟨by omega, rfl, rfl, Or.inl ⟨rfl, rfl⟩, fun f hf => by omega⟩, fun j e => by (cases e), fun j e => by (cases e), ⟨rfl, rfl, by omega, fun k hk => by omega⟩, ⟨by omega, rfl, rfl, fun k hk => rfl⟩, ?_, rfl, ?_, Or.inl ⟨rfl, rfl⟩⟩
  · exact ⟨fun k hk => rfl, fun s p h7 h10 hp => rfl, fun k hk => rfl⟩
  · refine ⟨fun k hk => ?_, fun s p h7 h10 hp => ?_, fun k hk => rfl⟩
    · rcases (show k = 0 ∨ k = 1 ∨ k = 2 ∨ k = 3 ∨ k = 4 ∨ k = 5 by omega) with rfl | rfl | rfl | rfl | rfl | rfl <;> rfl
    · rcases (show s = 7 ∨ s = 8 ∨ s = 9 ∨ s = 10 by omega) with rfl | rfl | rfl | rfl <;> rfl
  · intro t ht
    refine ⟨?_, rfl, rfl, Nat.zero_le _, Or.inl ⟨rfl, rfl⟩, fun k hk => rfl⟩
    rcases (show t = 0 ∨ t = 1 ∨ t = 2 ∨ t = 3 ∨ t = 4 ∨ t = 5 by omega) with rfl | rfl | rfl | rfl | rfl | rfl <;> rfl
  · intro k hk
    rcases (show k = 0 ∨ k = 1 ∨ k = 2 ∨ k = 3 ∨ k = 4 ∨ k = 5 ∨ k = 6 ∨ k = 7 ∨ k = 8 ∨ k = 9 ∨ k = 10 ∨ k = 11 by omega) with rfl | rfl | rfl | rfl | rfl | rfl | rfl | rfl | rfl | rfl | rfl | rfl <;> rfl

def R_law : String := "OilWatchLaw"
def lw_P (b : Addr) (xs : List Int32) (args : Array Value) (s : State) : Prop := args = #[.ref b] ∧ s.IntsAt b xs ∧ xs.length ≤ 2560 ∧ (Jvm.Cond.and given_1 narrow_1).before args s = true
def lw_Q (_ : Array Value) (s : State) (o : Outcome) (t : State) : Prop := o = .returned (some (.int 1)) ∧ Framed s o t [] 600000 7302250
def lw_Z (below : List Frame) (a : Array Value) (s : State) : State → Prop := fun t => ∃ o, t.status = .running ∧ Ended t below o ∧ lw_Q a s o t
/-- the law's own end, with 1 on the stack, nothing written that was there before, its room as the claim has it -/
theorem lw_ret {p : Program} {l : Launch} {e : Env} {s : State} {m : MethodId} {below : List Frame} {meth : Method} {c : Code} {b : Nat} (hx : p.tables.exec = Jvm.exec) (hb : c.code = code) (hr : meth.sig.returnType = ret) (hlocks : meth.locks = false) {pc : Nat} {H : Heap} {ls : Array Slot} (hdg : decode code pc = .ok (.ireturn, 1)) : W p l e room_1 s m #[Value.ref b] below meth c H [] 600000 7302250 (lw_Z below #[Value.ref b] s) (F0 m pc ls [.int 1]) := by
  intro T hT X
  obtain ⟨fs, hret, hrun, hended, hW, hframe⟩ := X.leave (v := some (.int 1)) (hlocks := hlocks) (fun h => by rw [hr] at h; cases h)
  have hmeth' : T.vm.method? m = some meth := X.method'
  refine ⟨T.setFrames fs, ?_, .returned (some (.int 1)), hrun, hended, rfl, ⟨_, rfl⟩, hW, hframe⟩
  jvm_step X.here [X.here.top, hx, hb, hdg, hmeth', hr, ret, narrow_b1]
  (try refine ⟨rfl, ?_⟩); (try refine ⟨rfl, ?_⟩)
  first | (intro acts; rw [hret _ acts rfl rfl rfl]) | rw [hret _ _ rfl rfl rfl]
  exact Steps.refl _
/-- what holds at the law's entry: the machine, the code, the tables' words (any of lw_tbl by 'hts w (by decide +kernel)'), the script of L ints xs at the cell b, what the Statement gives of the start (any of its parts by flat_of_before) -/
def lw_At (p : Program) (s : State) (m : MethodId) (meth : Method) (c : Code) (b L : Nat) (xs : Nat → Int32) : Prop :=
  p.tables.exec = Jvm.exec ∧ c.code = code ∧ meth.sig.returnType = ret ∧ c.maxLocals = 4 ∧ s.vm.findClass R_law = some m.cls ∧ (∀ w ∈ lw_tbl, w.before #[Value.ref b] s = true) ∧ va_X b L xs s s.heap ∧ b < s.heap.size ∧ meth.locks = false ∧ (Jvm.Cond.and given_1 narrow_1).before #[Value.ref b] s = true
theorem cv_L_13 : ojCV RL 13 yX8_shore cX8_shore 3 (some .boolean) 2 8 := ⟨⟨ojT_in (by decide +kernel) rfl, ojT_in (by decide +kernel) rfl, ojT_in (by decide +kernel) rfl, by decide +kernel, by decide⟩, ojT_in (by decide +kernel) rfl, ojT_in (by decide +kernel) rfl, _, rfl, rfl⟩
theorem cv_L_17 : ojCV RL 17 yX9_shore cX9_shore 4 (some .boolean) 2 9 := ⟨⟨ojT_in (by decide +kernel) rfl, ojT_in (by decide +kernel) rfl, ojT_in (by decide +kernel) rfl, by decide +kernel, by decide⟩, ojT_in (by decide +kernel) rfl, ojT_in (by decide +kernel) rfl, _, rfl, rfl⟩
theorem cv_L_18 : ojCV RL 18 yX8_weather cX8_weather 5 (some .boolean) 4 8 := ⟨⟨ojT_in (by decide +kernel) rfl, ojT_in (by decide +kernel) rfl, ojT_in (by decide +kernel) rfl, by decide +kernel, by decide⟩, ojT_in (by decide +kernel) rfl, ojT_in (by decide +kernel) rfl, _, rfl, rfl⟩
theorem cv_L_22 : ojCV RL 22 yX9_weather cX9_weather 5 (some .boolean) 4 9 := ⟨⟨ojT_in (by decide +kernel) rfl, ojT_in (by decide +kernel) rfl, ojT_in (by decide +kernel) rfl, by decide +kernel, by decide⟩, ojT_in (by decide +kernel) rfl, ojT_in (by decide +kernel) rfl, _, rfl, rfl⟩
theorem cv_L_23 : ojCV RL 23 yX8_boom cX8_boom 5 (some .int) 3 8 := ⟨⟨ojT_in (by decide +kernel) rfl, ojT_in (by decide +kernel) rfl, ojT_in (by decide +kernel) rfl, by decide +kernel, by decide⟩, ojT_in (by decide +kernel) rfl, ojT_in (by decide +kernel) rfl, _, rfl, rfl⟩
theorem cv_L_27 : ojCV RL 27 yX9_boom cX9_boom 5 (some .int) 3 9 := ⟨⟨ojT_in (by decide +kernel) rfl, ojT_in (by decide +kernel) rfl, ojT_in (by decide +kernel) rfl, by decide +kernel, by decide⟩, ojT_in (by decide +kernel) rfl, ojT_in (by decide +kernel) rfl, _, rfl, rfl⟩
theorem cv_L_28 : ojCV RL 28 yX8_lift cX8_lift 2 (some .boolean) 1 8 := ⟨⟨ojT_in (by decide +kernel) rfl, ojT_in (by decide +kernel) rfl, ojT_in (by decide +kernel) rfl, by decide +kernel, by decide⟩, ojT_in (by decide +kernel) rfl, ojT_in (by decide +kernel) rfl, _, rfl, rfl⟩
theorem cv_L_32 : ojCV RL 32 yX9_lift cX9_lift 2 (some .boolean) 1 9 := ⟨⟨ojT_in (by decide +kernel) rfl, ojT_in (by decide +kernel) rfl, ojT_in (by decide +kernel) rfl, by decide +kernel, by decide⟩, ojT_in (by decide +kernel) rfl, ojT_in (by decide +kernel) rfl, _, rfl, rfl⟩
theorem cv_L_33 : ojCV RL 33 yX8_spill cX8_spill 3 (some .int) 2 8 := ⟨⟨ojT_in (by decide +kernel) rfl, ojT_in (by decide +kernel) rfl, ojT_in (by decide +kernel) rfl, by decide +kernel, by decide⟩, ojT_in (by decide +kernel) rfl, ojT_in (by decide +kernel) rfl, _, rfl, rfl⟩
theorem cv_L_37 : ojCV RL 37 yX9_spill cX9_spill 3 (some .int) 2 9 := ⟨⟨ojT_in (by decide +kernel) rfl, ojT_in (by decide +kernel) rfl, ojT_in (by decide +kernel) rfl, by decide +kernel, by decide⟩, ojT_in (by decide +kernel) rfl, ojT_in (by decide +kernel) rfl, _, rfl, rfl⟩
theorem cv_L_38 : ojCV RL 38 yX8_skimmer cX8_skimmer 5 (some .int) 4 8 := ⟨⟨ojT_in (by decide +kernel) rfl, ojT_in (by decide +kernel) rfl, ojT_in (by decide +kernel) rfl, by decide +kernel, by decide⟩, ojT_in (by decide +kernel) rfl, ojT_in (by decide +kernel) rfl, _, rfl, rfl⟩
theorem cv_L_42 : ojCV RL 42 yX9_skimmer cX9_skimmer 5 (some .int) 4 9 := ⟨⟨ojT_in (by decide +kernel) rfl, ojT_in (by decide +kernel) rfl, ojT_in (by decide +kernel) rfl, by decide +kernel, by decide⟩, ojT_in (by decide +kernel) rfl, ojT_in (by decide +kernel) rfl, _, rfl, rfl⟩
theorem cv_L_43 : ojCV RL 43 yX8_sail cX8_sail 4 (some .boolean) 2 8 := ⟨⟨ojT_in (by decide +kernel) rfl, ojT_in (by decide +kernel) rfl, ojT_in (by decide +kernel) rfl, by decide +kernel, by decide⟩, ojT_in (by decide +kernel) rfl, ojT_in (by decide +kernel) rfl, _, rfl, rfl⟩
theorem cv_L_46 : ojCV RL 46 yX9_sail cX9_sail 3 (some .boolean) 2 9 := ⟨⟨ojT_in (by decide +kernel) rfl, ojT_in (by decide +kernel) rfl, ojT_in (by decide +kernel) rfl, by decide +kernel, by decide⟩, ojT_in (by decide +kernel) rfl, ojT_in (by decide +kernel) rfl, _, rfl, rfl⟩
theorem cv_L_47 : ojCV RL 47 yX8_empty cX8_empty 3 (some .int) 1 8 := ⟨⟨ojT_in (by decide +kernel) rfl, ojT_in (by decide +kernel) rfl, ojT_in (by decide +kernel) rfl, by decide +kernel, by decide⟩, ojT_in (by decide +kernel) rfl, ojT_in (by decide +kernel) rfl, _, rfl, rfl⟩
theorem cv_L_51 : ojCV RL 51 yX9_empty cX9_empty 3 (some .int) 1 9 := ⟨⟨ojT_in (by decide +kernel) rfl, ojT_in (by decide +kernel) rfl, ojT_in (by decide +kernel) rfl, by decide +kernel, by decide⟩, ojT_in (by decide +kernel) rfl, ojT_in (by decide +kernel) rfl, _, rfl, rfl⟩
theorem cv_L_52 : ojCV RL 52 yX8_go cX8_go 4 (some .int) 1 8 := ⟨⟨ojT_in (by decide +kernel) rfl, ojT_in (by decide +kernel) rfl, ojT_in (by decide +kernel) rfl, by decide +kernel, by decide⟩, ojT_in (by decide +kernel) rfl, ojT_in (by decide +kernel) rfl, _, rfl, rfl⟩
theorem cv_L_55 : ojCV RL 55 yX9_go cX9_go 4 (some .int) 1 9 := ⟨⟨ojT_in (by decide +kernel) rfl, ojT_in (by decide +kernel) rfl, ojT_in (by decide +kernel) rfl, by decide +kernel, by decide⟩, ojT_in (by decide +kernel) rfl, ojT_in (by decide +kernel) rfl, _, rfl, rfl⟩
theorem cv_L_56 : ojCV RL 56 yX8_oil cX8_oil 2 (some .int) 1 8 := ⟨⟨ojT_in (by decide +kernel) rfl, ojT_in (by decide +kernel) rfl, ojT_in (by decide +kernel) rfl, by decide +kernel, by decide⟩, ojT_in (by decide +kernel) rfl, ojT_in (by decide +kernel) rfl, _, rfl, rfl⟩
theorem cv_L_59 : ojCV RL 59 yX9_oil cX9_oil 2 (some .int) 1 9 := ⟨⟨ojT_in (by decide +kernel) rfl, ojT_in (by decide +kernel) rfl, ojT_in (by decide +kernel) rfl, by decide +kernel, by decide⟩, ojT_in (by decide +kernel) rfl, ojT_in (by decide +kernel) rfl, _, rfl, rfl⟩
theorem cv_L_60 : ojCV RL 60 yX8_foretold cX8_foretold 3 (some .int) 2 8 := ⟨⟨ojT_in (by decide +kernel) rfl, ojT_in (by decide +kernel) rfl, ojT_in (by decide +kernel) rfl, by decide +kernel, by decide⟩, ojT_in (by decide +kernel) rfl, ojT_in (by decide +kernel) rfl, _, rfl, rfl⟩
theorem cv_L_63 : ojCV RL 63 yX9_foretold cX9_foretold 4 (some .int) 2 9 := ⟨⟨ojT_in (by decide +kernel) rfl, ojT_in (by decide +kernel) rfl, ojT_in (by decide +kernel) rfl, by decide +kernel, by decide⟩, ojT_in (by decide +kernel) rfl, ojT_in (by decide +kernel) rfl, _, rfl, rfl⟩
theorem cv_L_64 : ojCV RL 64 yX8_worst cX8_worst 4 (some .int) 1 8 := ⟨⟨ojT_in (by decide +kernel) rfl, ojT_in (by decide +kernel) rfl, ojT_in (by decide +kernel) rfl, by decide +kernel, by decide⟩, ojT_in (by decide +kernel) rfl, ojT_in (by decide +kernel) rfl, _, rfl, rfl⟩
theorem cv_L_67 : ojCV RL 67 yX9_worst cX9_worst 4 (some .int) 1 9 := ⟨⟨ojT_in (by decide +kernel) rfl, ojT_in (by decide +kernel) rfl, ojT_in (by decide +kernel) rfl, by decide +kernel, by decide⟩, ojT_in (by decide +kernel) rfl, ojT_in (by decide +kernel) rfl, _, rfl, rfl⟩
theorem cv_L_68 : ojCV RL 68 yX8_best cX8_best 4 (some .int) 3 8 := ⟨⟨ojT_in (by decide +kernel) rfl, ojT_in (by decide +kernel) rfl, ojT_in (by decide +kernel) rfl, by decide +kernel, by decide⟩, ojT_in (by decide +kernel) rfl, ojT_in (by decide +kernel) rfl, _, rfl, rfl⟩
theorem cv_L_71 : ojCV RL 71 yX9_best cX9_best 8 (some .int) 3 9 := ⟨⟨ojT_in (by decide +kernel) rfl, ojT_in (by decide +kernel) rfl, ojT_in (by decide +kernel) rfl, by decide +kernel, by decide⟩, ojT_in (by decide +kernel) rfl, ojT_in (by decide +kernel) rfl, _, rfl, rfl⟩
theorem cv_L_72 : ojCV RL 72 yX8_ship cX8_ship 6 (some .int) 3 8 := ⟨⟨ojT_in (by decide +kernel) rfl, ojT_in (by decide +kernel) rfl, ojT_in (by decide +kernel) rfl, by decide +kernel, by decide⟩, ojT_in (by decide +kernel) rfl, ojT_in (by decide +kernel) rfl, _, rfl, rfl⟩
theorem cv_L_75 : ojCV RL 75 yX9_ship cX9_ship 4 (some .int) 3 9 := ⟨⟨ojT_in (by decide +kernel) rfl, ojT_in (by decide +kernel) rfl, ojT_in (by decide +kernel) rfl, by decide +kernel, by decide⟩, ojT_in (by decide +kernel) rfl, ojT_in (by decide +kernel) rfl, _, rfl, rfl⟩
theorem cv_L_76 : ojCV RL 76 yX8_could cX8_could 3 (some .boolean) 2 8 := ⟨⟨ojT_in (by decide +kernel) rfl, ojT_in (by decide +kernel) rfl, ojT_in (by decide +kernel) rfl, by decide +kernel, by decide⟩, ojT_in (by decide +kernel) rfl, ojT_in (by decide +kernel) rfl, _, rfl, rfl⟩
theorem cv_L_79 : ojCV RL 79 yX9_could cX9_could 5 (some .boolean) 2 9 := ⟨⟨ojT_in (by decide +kernel) rfl, ojT_in (by decide +kernel) rfl, ojT_in (by decide +kernel) rfl, by decide +kernel, by decide⟩, ojT_in (by decide +kernel) rfl, ojT_in (by decide +kernel) rfl, _, rfl, rfl⟩
theorem cv_L_80 : ojCV RL 80 yX8_sample cX8_sample 7 (some .int) 2 8 := ⟨⟨ojT_in (by decide +kernel) rfl, ojT_in (by decide +kernel) rfl, ojT_in (by decide +kernel) rfl, by decide +kernel, by decide⟩, ojT_in (by decide +kernel) rfl, ojT_in (by decide +kernel) rfl, _, rfl, rfl⟩
theorem cv_L_83 : ojCV RL 83 yX9_sample cX9_sample 5 (some .int) 2 9 := ⟨⟨ojT_in (by decide +kernel) rfl, ojT_in (by decide +kernel) rfl, ojT_in (by decide +kernel) rfl, by decide +kernel, by decide⟩, ojT_in (by decide +kernel) rfl, ojT_in (by decide +kernel) rfl, _, rfl, rfl⟩
theorem cv_L_84 : ojCV RL 84 yX8_part cX8_part 3 (some .boolean) 2 8 := ⟨⟨ojT_in (by decide +kernel) rfl, ojT_in (by decide +kernel) rfl, ojT_in (by decide +kernel) rfl, by decide +kernel, by decide⟩, ojT_in (by decide +kernel) rfl, ojT_in (by decide +kernel) rfl, _, rfl, rfl⟩
theorem cv_L_87 : ojCV RL 87 yX9_part cX9_part 3 (some .boolean) 2 9 := ⟨⟨ojT_in (by decide +kernel) rfl, ojT_in (by decide +kernel) rfl, ojT_in (by decide +kernel) rfl, by decide +kernel, by decide⟩, ojT_in (by decide +kernel) rfl, ojT_in (by decide +kernel) rfl, _, rfl, rfl⟩
theorem cv_L_88 : ojCV RL 88 yX8_bill cX8_bill 4 (some .int) 1 8 := ⟨⟨ojT_in (by decide +kernel) rfl, ojT_in (by decide +kernel) rfl, ojT_in (by decide +kernel) rfl, by decide +kernel, by decide⟩, ojT_in (by decide +kernel) rfl, ojT_in (by decide +kernel) rfl, _, rfl, rfl⟩
theorem cv_L_91 : ojCV RL 91 yX9_bill cX9_bill 8 (some .int) 1 9 := ⟨⟨ojT_in (by decide +kernel) rfl, ojT_in (by decide +kernel) rfl, ojT_in (by decide +kernel) rfl, by decide +kernel, by decide⟩, ojT_in (by decide +kernel) rfl, ojT_in (by decide +kernel) rfl, _, rfl, rfl⟩
theorem cv_L_92 : ojCV RL 92 yX8_told cX8_told 4 (some .int) 2 8 := ⟨⟨ojT_in (by decide +kernel) rfl, ojT_in (by decide +kernel) rfl, ojT_in (by decide +kernel) rfl, by decide +kernel, by decide⟩, ojT_in (by decide +kernel) rfl, ojT_in (by decide +kernel) rfl, _, rfl, rfl⟩
theorem cv_L_95 : ojCV RL 95 yX9_told cX9_told 3 (some .int) 2 9 := ⟨⟨ojT_in (by decide +kernel) rfl, ojT_in (by decide +kernel) rfl, ojT_in (by decide +kernel) rfl, by decide +kernel, by decide⟩, ojT_in (by decide +kernel) rfl, ojT_in (by decide +kernel) rfl, _, rfl, rfl⟩
theorem cv_L_96 : ojCV RL 96 yX8_count cX8_count 2 (some .int) 1 8 := ⟨⟨ojT_in (by decide +kernel) rfl, ojT_in (by decide +kernel) rfl, ojT_in (by decide +kernel) rfl, by decide +kernel, by decide⟩, ojT_in (by decide +kernel) rfl, ojT_in (by decide +kernel) rfl, _, rfl, rfl⟩
theorem cv_L_99 : ojCV RL 99 yX9_count cX9_count 4 (some .int) 1 9 := ⟨⟨ojT_in (by decide +kernel) rfl, ojT_in (by decide +kernel) rfl, ojT_in (by decide +kernel) rfl, by decide +kernel, by decide⟩, ojT_in (by decide +kernel) rfl, ojT_in (by decide +kernel) rfl, _, rfl, rfl⟩
theorem oj_callL {s : State} {args : Array Value} {ix : Nat} {y : MethodName} {cc : ByteArray} {maxL n Lc : Nat} {ret : Option FieldType} (ht : ∀ w ∈ ojT, w.before args s = true) (h : ojCW RL ix y cc maxL ret n) (hL : Lc ≤ 100) : CallB room_1 s args RL ix y cc maxL ret (ojWs y cc maxL ret) (ojRm Lc) 0 0 n := by
  obtain ⟨h1, h2, h3, h4, h5⟩ := h
  refine callB_of n ht (fun w hw => ?_) rfl rfl rfl (ht _ h2) (ht _ h1) h4 ?_
  · rcases List.mem_cons.mp hw with rfl | hw
    · exact ⟨h3, ojT_good h3⟩
    · exact ⟨hw, ojT_good hw⟩
  · exact ⟨by show Lc + 1 ≤ 2048; omega, by show 8 + (maxL + 11) + 60 * Lc ≤ 84000; omega⟩
section ojL
variable {p : Program} {l : Launch} {e : Env} {s : State} {m : MethodId} {args : Array Value} {below : List Frame} {meth : Method} {c : Code} {H : Heap} {locs : List Loc} {cells slots : Nat} {Q : State → Prop} {D : va_G} {tys : List (ClassId × FieldType)} {wf : ojS → va_W} {A : Nat → Prop} {σ σ1 : ojS}
theorem law_call {r : Int32} {b0 ci : Nat} {fs : List Value} {y : MethodName} {bytes : ByteArray} {maxL n ix Lc pc : Nat} {ret : Option FieldType} {ls : Array Slot} {st : List Value} (As rest : List Value)
    (hx : p.tables.exec = Jvm.exec) (hb : c.code = code) (hml : c.maxLocals = 4) (hown : s.vm.findClass RL = some m.cls) (ht : ∀ w ∈ ojT, w.before args s = true) (hK : va_K D vwCl tys s) (hP : va_P D vwCl (wf σ) H) (hD : va_D A (wf σ)) (hS : va_S A s.heap H locs) (hA : ∀ q, s.heap.size ≤ q → A q) (hls : ls.size = 4) (he : (wf σ)[0]? = some (b0, .inr (ci, fs))) (hw : ojCV RL ix y bytes maxL ret n ci) (hL : Lc ≤ 100) (hM : ojMi (l, D, tys, wf) y bytes maxL ret Lc (.ref b0 :: As) σ r σ1) (hn : As.length = n) (hst : st = As.reverse ++ .ref b0 :: rest) (hrs : (rest.map fun v => v.category).sum ≤ 8) (hd : decode code pc = .ok (.invokevirtual ix, 3)) (hcs : cells ≤ room_1.cells ∧ slots ≤ room_1.slots)
    (kk : ∀ (H1 : Heap) (locs1 : List Loc), va_P D vwCl (wf σ1) H1 → va_D A (wf σ1) → va_S A s.heap H1 locs1 → (∀ q : Nat, q < H.size → ¬ va_A (wf σ) H.size q → H1[q]? = H[q]?) → W p l e room_1 s m args below meth c H1 locs1 cells slots Q (F0 m (pc + 3) ls (.int r :: rest))) :
    W p l e room_1 s m args below meth c H locs cells slots Q (F0 m pc ls st) := by
  obtain ⟨hw1, hw2, hw3, q, hq, hqc⟩ := hw
  have hF := oj_free hD hS hA
  have hrec := va_recv hK hP hq he
  rw [hqc] at hrec
  refine va_calli (va_runV (As := As) (rest := rest) (C := y.cls) ⟨hx, hb, hml, hown, ht⟩ (hM H.size) ⟨oj_callL ht hw1 hL, ht _ hw2, ht _ hw3⟩ ⟨ojPc_blind, hrec, oj_pre (V := (l, D, tys, wf)) (locs := locs) (H0 := s.heap) hK hP hD⟩ rfl hn hls hst (lv_room hrs) hd ⟨hcs.1, hcs.2⟩) hS (fun q _ h => hF q h) hF (fun r2 u t H1 locs1 ht1 hvm hpost hB hz1 hk1 hS1 => ?_)
  obtain ⟨rfl, rfl⟩ := hpost
  obtain ⟨hP1, hK1, hD1⟩ := hB
  rw [ht1] at hP1
  exact kk H1 locs1 hP1 (hD1.weaken (fun _ q _ h => hF q.1 h)) hS1 hk1
theorem law_keep {w w2 : va_W} {H1 : Heap} (hP2 : va_P D vwCl w2 H) (hne : ∀ (i j : Nat) (p q : Nat × va_E), w[i]? = some p → w2[j]? = some q → p.1 ≠ q.1) (hk : ∀ q : Nat, q < H.size → ¬ va_A w H.size q → H1[q]? = H[q]?) : va_P D vwCl w2 H1 := by
  refine hP2.kept (fun k q hq => hk q.1 (hP2 k q hq).lt (fun h => ?_))
  rcases h with ⟨i, e, h⟩ | h
  · exact hne i k _ _ h hq rfl
  · have := (hP2 k q hq).lt; omega
theorem law_ld {b L : Nat} {xs : Nat → Int32} {i : Nat} {pc : Nat} {ls : Array Slot} {rest : List Value} {R : Room} (k : Nat) {kk : Int} (hx : p.tables.exec = Jvm.exec) (hb : c.code = code) (hX : va_X b L xs s s.heap) (hbl : b < s.heap.size) (hbA : ¬ A b) (hS : va_S A s.heap H locs) (hl0 : ls[0]? = some (.val (.ref b))) (hl3 : ls[3]? = some (.val (.int (nI i)))) (hi : i + 5 ≤ L) (hL : L ≤ 2560) (hk : k < 5) (hkk : Int32.ofInt kk = nI k)
    (d0 : decode code pc = .ok (.aload_n 0, 1)) (d1 : decode code (pc + 1) = .ok (.iload_n 3, 1)) (d2 : decode code (pc + 1 + 1) = .ok (.iconst kk, 1)) (d3 : decode code (pc + 1 + 1 + 1) = .ok (.iadd, 1)) (d4 : decode code (pc + 1 + 1 + 1 + 1) = .ok (.iaload, 1))
    (kont : W p l e R s m args below meth c H locs cells slots Q (F0 m (pc + 1 + 1 + 1 + 1 + 1) ls (.int (xs (i + k)) :: rest))) : W p l e R s m args below meth c H locs cells slots Q (F0 m pc ls rest) := by
  refine lv_aload_n hx hb d0 rfl hl0 ?_
  refine lv_iload_n hx hb d1 rfl hl3 ?_
  refine lv_iconst (v := nI k) hx hb d2 hkk ?_
  refine lv_iadd hx hb d3 ?_
  rw [nI_add]
  refine va_sld hx hb hX hbl hbA hS (by exact vp_in_nI (by omega) (by omega)) d4 ?_
  rw [nI_clamp (by omega)]
  exact kont
end ojL
theorem wO_ad {E : ojE} {ad : Nat → Nat} {σ : ojS} {i : Nat} {q : Nat × va_E} (h : (wO_ E ad σ)[i]? = some q) : i < 47 ∧ q.1 = ad i := by
  by_cases hi : i < 47
  · rw [wO_at hi] at h; cases h; exact ⟨hi, rfl⟩
  · rw [List.getElem?_eq_none (by simp [wO_]; omega)] at h; cases h
theorem wM_ad {E : ojE} {ad : Nat → Nat} {σ : ojS} {i : Nat} {q : Nat × va_E} (h : (wM_ E ad σ)[i]? = some q) : i < 27 ∧ q.1 = ad i := by
  by_cases hi : i < 27
  · rw [wM_at hi] at h; cases h; exact ⟨hi, rfl⟩
  · rw [List.getElem?_eq_none (by simp [wM_]; omega)] at h; cases h
theorem law_ne {E : ojE} {ad ad2 : Nat → Nat} {σ τ : ojS} (hne : ∀ j k, j < 47 → k < 27 → ad j ≠ ad2 k) : ∀ (i j : Nat) (p q : Nat × va_E), (wO_ E ad σ)[i]? = some p → (wM_ E ad2 τ)[j]? = some q → p.1 ≠ q.1 := fun i j p q h1 h2 => by
  obtain ⟨a1, a2⟩ := wO_ad h1
  obtain ⟨b1, b2⟩ := wM_ad h2
  rw [a2, b2]; exact hne i j a1 b1
theorem law_ne2 {E : ojE} {ad ad2 : Nat → Nat} {σ τ : ojS} (hne : ∀ j k, j < 47 → k < 27 → ad j ≠ ad2 k) : ∀ (i j : Nat) (p q : Nat × va_E), (wM_ E ad2 τ)[i]? = some p → (wO_ E ad σ)[j]? = some q → p.1 ≠ q.1 := fun i j p q h1 h2 h => law_ne hne j i q p h2 h1 h.symm
def lwG (s : State) (b : Nat) (D : va_G) (E : ojE) (ad ad2 : Nat → Nat) (i : Nat) (σ τ : ojS) (H : Heap) (locs : List Loc) (ls : Array Slot) : Prop := RRR σ τ ∧ va_P D vwCl (wO_ E ad σ) H ∧ va_P D vwCl (wM_ E ad2 τ) H ∧ va_D (fun q : Nat => s.heap.size ≤ q) (wO_ E ad σ) ∧ va_D (fun q : Nat => s.heap.size ≤ q) (wM_ E ad2 τ) ∧ va_S (fun q : Nat => s.heap.size ≤ q) s.heap H locs ∧ lv_has ls 4 [(0, .ref b), (1, .ref (ad 0)), (2, .ref (ad2 0)), (3, .int (nI i))]
def lwN (s : State) (D : va_G) (E : ojE) (ad ad2 : Nat → Nat) : Prop := va_K D vwCl (ojTy E) s ∧ ∀ j k, j < 47 → k < 27 → ad j ≠ ad2 k

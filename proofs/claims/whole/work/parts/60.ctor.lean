def nwO (U : State) : Prop := va_Nw (.methodLinkNest RX8 11 yX2_init "OilWatch") U ∧ va_Nw (.methodLinkNest RX8 25 yX6_init "OilWatch") U ∧ va_Nw (.methodLinkNest RX1 17 yX5_init "OilWatch") U ∧ va_Nw (.methodLinkNest RX8 39 yX7_init "OilWatch") U ∧ va_Nw (.methodLinkNest RX8 50 yX3_init "OilWatch") U ∧ va_Nw (.methodLinkNest RX8 61 yX4_init "OilWatch") U ∧ va_AO "OilWatch$Skimmer" U ∧ va_AO "OilWatch$Slick" U ∧ va_AO "OilWatch$Ship" U
theorem nwO.warm {s U : State} (hW : s.WarmedH U.vm) (h : nwO s) : nwO U := ⟨va_Nw.warmM hW h.1, va_Nw.warmM hW h.2.1, va_Nw.warmM hW h.2.2.1, va_Nw.warmM hW h.2.2.2.1, va_Nw.warmM hW h.2.2.2.2.1, va_Nw.warmM hW h.2.2.2.2.2.1, va_AO.moved hW.alike h.2.2.2.2.2.2.1, va_AO.moved hW.alike h.2.2.2.2.2.2.2.1, va_AO.moved hW.alike h.2.2.2.2.2.2.2.2⟩
theorem nwO.same {s U : State} (hv : s.vm = U.vm) (h : nwO s) : nwO U := ⟨va_Nw.same rfl hv h.1, va_Nw.same rfl hv h.2.1, va_Nw.same rfl hv h.2.2.1, va_Nw.same rfl hv h.2.2.2.1, va_Nw.same rfl hv h.2.2.2.2.1, va_Nw.same rfl hv h.2.2.2.2.2.1, va_AO.moved (by rw [hv]; exact Vm.Alike.refl _) h.2.2.2.2.2.2.1, va_AO.moved (by rw [hv]; exact Vm.Alike.refl _) h.2.2.2.2.2.2.2.1, va_AO.moved (by rw [hv]; exact Vm.Alike.refl _) h.2.2.2.2.2.2.2.2⟩
def ojPi (D : va_G) (E : ojE) (h0 : Nat) (e0 : va_E) (sz : Nat) : Array Value → State → Prop := va_Pc [.ref h0] (fun U => U.heap.size = sz ∧ va_P D vwCl [(h0, e0)] U.heap ∧ va_K D vwCl (ojTy E) U ∧ va_D (fun _ => True) [(h0, e0)] ∧ nwO U)
theorem ojPi_blind {D : va_G} {E : ojE} {h0 : Nat} {e0 : va_E} {sz : Nat} : FrameBlind (ojPi D E h0 e0 sz) := fun a U g mk q => by
  obtain ⟨q0, q1, qP, qK, qD, qN⟩ := q
  exact ⟨q0, q1, qP, va_K.moved (u := U) (U := U.calling g mk a) (Vm.Alike.refl U.vm) qK, qD, nwO.same (s := U) rfl qN⟩
abbrev ojRi2 (L mc ms : Nat) : Room := { frames := L, cells := mc, slots := ms, locals := 60 * L }
def ojI (l : Launch) (D : va_G) (E : ojE) (y : MethodName) (cc : ByteArray) (maxL L mc ms : Nat) (h0 : Nat) (e0 : va_E) (post : va_W → Prop) : Prop :=
  ∀ sz : Nat, Met l y (ojWs y cc maxL none) (ojRi2 L mc ms) (ojPi D E h0 e0 sz) (va_Qv (fun w : va_W => post w) (fun w t => va_P D vwCl w t.heap ∧ va_K D vwCl (ojTy E) t ∧ va_D (va_A [(h0, e0)] sz) w) (va_A [(h0, e0)] sz)) mc ms (va_A [(h0, e0)] sz)
theorem wd_int : Cond.arrayClass .int ∈ ojT := ojT_in (by decide +kernel) rfl
theorem wd_bool : Cond.arrayClass .boolean ∈ ojT := ojT_in (by decide +kernel) rfl
theorem cell_0 (cA : ClassId) (N : Nat) : vp_cell cA (N, .inl (fun _ => 0)) = arrV cA N (fun _ => defaultValue .int) := rfl
theorem cell_0b (cA : ClassId) (N : Nat) : vp_cell cA (N, .inl (fun _ => 0)) = arrV cA N (fun _ => defaultValue .boolean) := rfl
section ojQ
variable {p : Program} {l : Launch} {e : Env} {R : Room} {s : State} {m : MethodId} {args : Array Value} {below : List Frame} {meth : Method} {c : Code} {H : Heap} {locs : List Loc} {cells slots : Nat} {Q : State → Prop} {D : va_G} {E : ojE} {A : Nat → Prop} {own : String} {cc : ByteArray} {pc nL : Nat} {ls : Array Slot} {rest : List Value} {ws : va_W}
/-- a constructor called on a cell just made: its world takes the cell's place -/
theorem oj_after {w : va_W} {q : Nat} {e0 : va_E} {H1 : Heap} (hP : va_P D vwCl (ws ++ [(q, e0)]) H) (hD : va_D A (ws ++ [(q, e0)])) (hF : ∀ x, va_A [(q, e0)] H.size x → A x) (hk : ∀ x : Nat, x < H.size → ¬ va_A [(q, e0)] H.size x → H1[x]? = H[x]?) (hP1 : va_P D vwCl w H1) (hD1 : va_D (va_A [(q, e0)] H.size) w) : va_P D vwCl (ws ++ w) H1 ∧ va_D A (ws ++ w) := by
  have hws : ∀ (k : Nat) (x : Nat × va_E), ws[k]? = some x → (ws ++ [(q, e0)])[k]? = some x := fun k x h => by
    rw [List.getElem?_append_left (List.getElem?_eq_some_iff.mp h).1]; exact h
  have apart : ∀ (k : Nat) (x : Nat × va_E), ws[k]? = some x → x.1 < H.size ∧ ¬ va_A [(q, e0)] H.size x.1 := fun k x h => by
    have hl := (hP k x (hws k x h)).lt
    refine ⟨hl, fun z => ?_⟩
    rcases z with ⟨i, e, z⟩ | z
    · have hi : i < 1 := (List.getElem?_eq_some_iff.mp z).1
      rw [show i = 0 by omega] at z
      have hz := Option.some.inj z
      have h2 : (ws ++ [(q, e0)])[ws.length]? = some (q, e0) := by rw [List.getElem?_append_right (Nat.le_refl _), Nat.sub_self]; rfl
      have := hD.1 k ws.length x (q, e0) (hws k x h) h2 (by rw [hz])
      have := (List.getElem?_eq_some_iff.mp h).1
      omega
    · omega
  have hPw : va_P D vwCl ws H1 := fun k x h => (hP k x (hws k x h)).kept (hk x.1 (apart k x h).1 (apart k x h).2)
  refine ⟨hPw.app hP1, va_D.app ⟨fun i j x y h1 h2 h3 => hD.1 i j x y (hws i x h1) (hws j y h2) h3, fun k x h => hD.2 k x (hws k x h)⟩ (hD1.weaken (fun _ x _ h => hF x.1 h)) (fun i j x y h1 h2 h3 => (apart i x h1).2 (by rw [h3]; exact hD1.2 j y h2))⟩
theorem oj_freeC {q : Nat} {e0 : va_E} (hD : va_D A (ws ++ [(q, e0)])) (hS : va_S A s.heap H locs) (hA : ∀ x, s.heap.size ≤ x → A x) : ∀ x, va_A [(q, e0)] H.size x → A x := fun x h => by
  rcases h with ⟨i, e, z⟩ | z
  · have hi : i < 1 := (List.getElem?_eq_some_iff.mp z).1
    rw [show i = 0 by omega] at z
    have hz := Option.some.inj z
    have h2 : (ws ++ [(q, e0)])[ws.length]? = some (q, e0) := by rw [List.getElem?_append_right (Nat.le_refl _), Nat.sub_self]; rfl
    have := hD.2 _ _ h2
    rw [hz] at this
    exact this
  · exact hA x (Nat.le_trans hS.1 z)
theorem oj_lastP {q : Nat} {e0 : va_E} (hP : va_P D vwCl (ws ++ [(q, e0)]) H) : va_P D vwCl [(q, e0)] H := fun i x z => by
  have hi : i < 1 := (List.getElem?_eq_some_iff.mp z).1
  rw [show i = 0 by omega] at z
  have hz := Option.some.inj z
  subst hz
  exact hP ws.length (q, e0) (by rw [List.getElem?_append_right (Nat.le_refl _), Nat.sub_self]; rfl)
theorem oj_oneD {q : Nat} {e0 : va_E} : va_D (fun _ => True) [(q, e0)] := ⟨fun i j x y h1 h2 _ => by
  have := (List.getElem?_eq_some_iff.mp h1).1
  have := (List.getElem?_eq_some_iff.mp h2).1
  simp only [List.length_cons, List.length_nil] at *
  omega, fun _ _ _ => trivial⟩
theorem oj_ctor {y : MethodName} {bytes : ByteArray} {maxL L mc ms q ix : Nat} {e0 : va_E} {post : va_W → Prop} (hx : p.tables.exec = Jvm.exec) (hb : c.code = cc) (hml : c.maxLocals = nL) (hown : s.vm.findClass own = some m.cls) (ht : ∀ w ∈ ojT, w.before args s = true) (hK : va_K D vwCl (ojTy E) s) (hN : nwO s) (hP : va_P D vwCl (ws ++ [(q, e0)]) H) (hD : va_D A (ws ++ [(q, e0)])) (hS : va_S A s.heap H locs) (hA : ∀ x, s.heap.size ≤ x → A x) (hls : ls.size = nL)
    (hlink : (Cond.methodLink own ix y).before args s = true ∨ ∃ host, va_Nw (.methodLinkNest own ix y host) s) (hini : Cond.initialized y.cls ∈ ojT) (hcode : Cond.code y bytes maxL none ∈ ojT) (hinst : Cond.instanceMethod y ∈ ojT) (hdd : y.cls ≠ "java/lang/invoke/MethodHandle" ∧ y.cls ≠ "java/lang/invoke/VarHandle" ∧ (parseMethodDescriptor y.desc).map (fun d => d.parameters.length) = some 0) (hyi : y.name = "<init>") (hM : ojI l D E y bytes maxL L mc ms q e0 post) (hR : L + 1 ≤ R.frames ∧ 8 + (maxL + 11) + 60 * L ≤ R.locals) (hrs : (rest.map fun v => v.category).sum ≤ 8) (hd : decode cc pc = .ok (.invokespecial ix, 3)) (hcs : cells + mc ≤ R.cells ∧ slots + ms ≤ R.slots)
    (kk : ∀ (w : va_W) (H1 : Heap) (locs1 : List Loc), post w → va_P D vwCl (ws ++ w) H1 → va_D A (ws ++ w) → va_S A s.heap H1 locs1 → W p l e R s m args below meth c H1 locs1 (cells + mc) (slots + ms) Q (F0 m (pc + 3) ls rest)) :
    W p l e R s m args below meth c H locs cells slots Q (F0 m pc ls (.ref q :: rest)) := by
  have hF := oj_freeC hD hS hA
  have hpre : PreS s H (ojPi D E q e0 H.size) (.ref q :: []) := ⟨ojPi_blind, fun U hU hW => ⟨rfl, by rw [hU], by rw [hU]; exact oj_lastP hP, va_K.moved hW.alike hK, oj_oneD, nwO.warm hW hN⟩⟩
  have hG : GoodIn ojT (ojWs y bytes maxL none) := fun w hw => by
    rcases List.mem_cons.mp hw with rfl | hw
    · exact ⟨hcode, ojT_good hcode⟩
    · exact ⟨hw, ojT_good hw⟩
  have hrun : va_Run p l e R s m args below meth c H locs cells slots mc ms (F0 m pc ls (.ref q :: rest)) rest (va_Qv (fun w : va_W => post w) (fun w t => va_P D vwCl w t.heap ∧ va_K D vwCl (ojTy E) t ∧ va_D (va_A [(q, e0)] H.size) w) (va_A [(q, e0)] H.size) (Value.ref q :: []).toArray) (va_A [(q, e0)] H.size) := by
    rcases hlink with hl | ⟨host, hl⟩
    · exact va_runI (As := []) (rest := rest) (n := 0) ⟨hx, hb, hml, hown, ht⟩ (hM H.size) ⟨callB_of 0 ht hG rfl rfl rfl (ht _ hini) hl hdd hR, hyi, ht _ hinst⟩ hpre rfl rfl hls rfl (lv_room hrs) hd hcs
    · exact va_runIN (As := []) (rest := rest) (n := 0) ⟨hx, hb, hml, hown, ht⟩ (hM H.size) ⟨va_cnB 0 ht hG rfl rfl rfl hl (ht _ hini) hdd hR, hyi, ht _ hinst⟩ hpre rfl rfl hls rfl (lv_room hrs) hd hcs
  refine va_callv hrun hS (fun x _ h => hF x h) hF (fun w t H1 locs1 ht1 hvm hpost hB hz1 hk1 hS1 => ?_)
  obtain ⟨hP1, hK1, hD1⟩ := hB
  rw [ht1] at hP1
  obtain ⟨g1, g2⟩ := oj_after hP hD hF hk1 hP1 hD1
  exact kk w H1 locs1 hpost g1 g2 hS1
/-- arrays of a known class -/
theorem oj_newI {n : Int32} {N : Nat} (hx : p.tables.exec = Jvm.exec) (hb : c.code = cc) (ht : ∀ w ∈ ojT, w.before args s = true) (hK : va_K D vwCl (ojTy E) s) (hP : va_P D vwCl ws H) (hD : va_D A ws) (hS : va_S A s.heap H locs) (hA : ∀ x, s.heap.size ≤ x → A x) (hn : ¬ n < 0) (hN : n.toNatClampNeg = N) (hN2 : N ≤ 10000) (hcells : cells + 1 ≤ R.cells) (hslots : slots + N ≤ R.slots) (hd : decode cc pc = .ok (.newarray .int, 2))
    (kk : ∀ (q : Nat) (H1 : Heap), va_P D vwCl (ws ++ [(q, .inl (E.1, N, .inl (fun _ => 0)))]) H1 → va_D A (ws ++ [(q, .inl (E.1, N, .inl (fun _ => 0)))]) → va_S A s.heap H1 locs → W p l e R s m args below meth c H1 locs (cells + 1) (slots + N) Q (F0 m (pc + 2) ls (.ref q :: rest))) : W p l e R s m args below meth c H locs cells slots Q (F0 m pc ls (.int n :: rest)) := by
  refine va_newa (ty := .int) (a0 := (N, .inl (fun _ => 0))) hx hb (atype := .int) (ht _ wd_int) rfl hK hP hD hS hA (fun cA => cell_0 cA N) hn hN (by show N * 4 ≤ _; omega) hcells hslots hd (fun q cA H1 hK1 hP1 hD1 hS1 => ?_)
  have h1 := (hK1.2 5 (cA, .int) rfl).2
  have h2 := (hK.2 0 (E.1, .int) rfl).2
  have e : cA = E.1 := Option.some.inj (h1.symm.trans h2)
  subst e
  exact kk q H1 hP1 hD1 hS1
theorem oj_newZ {n : Int32} {N : Nat} (hx : p.tables.exec = Jvm.exec) (hb : c.code = cc) (ht : ∀ w ∈ ojT, w.before args s = true) (hK : va_K D vwCl (ojTy E) s) (hP : va_P D vwCl ws H) (hD : va_D A ws) (hS : va_S A s.heap H locs) (hA : ∀ x, s.heap.size ≤ x → A x) (hn : ¬ n < 0) (hN : n.toNatClampNeg = N) (hN2 : N ≤ 10000) (hcells : cells + 1 ≤ R.cells) (hslots : slots + N ≤ R.slots) (hd : decode cc pc = .ok (.newarray .boolean, 2))
    (kk : ∀ (q : Nat) (H1 : Heap), va_P D vwCl (ws ++ [(q, .inl (E.2.1, N, .inl (fun _ => 0)))]) H1 → va_D A (ws ++ [(q, .inl (E.2.1, N, .inl (fun _ => 0)))]) → va_S A s.heap H1 locs → W p l e R s m args below meth c H1 locs (cells + 1) (slots + N) Q (F0 m (pc + 2) ls (.ref q :: rest))) : W p l e R s m args below meth c H locs cells slots Q (F0 m pc ls (.int n :: rest)) := by
  refine va_newa (ty := .boolean) (a0 := (N, .inl (fun _ => 0))) hx hb (atype := .boolean) (ht _ wd_bool) rfl hK hP hD hS hA (fun cA => cell_0b cA N) hn hN (by show N * 1 ≤ _; omega) hcells hslots hd (fun q cA H1 hK1 hP1 hD1 hS1 => ?_)
  have h1 := (hK1.2 5 (cA, .boolean) rfl).2
  have h2 := (hK.2 1 (E.2.1, .boolean) rfl).2
  have e : cA = E.2.1 := Option.some.inj (h1.symm.trans h2)
  subst e
  exact kk q H1 hP1 hD1 hS1
end ojQ

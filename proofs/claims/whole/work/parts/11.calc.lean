/-! fields, arrays, calls, contracts -/
def ojF (own : String) (ix ci j : Nat) : Prop := ∃ (C : String) (T : u_T) (N : Nat), vwCl[ci]? = some (C, T, N) ∧ (∀ w ∈ u_ws C T N, w ∈ ojT) ∧ j < N ∧ Cond.fieldLink own ix (T j).1 (T j).2.1 (T j).2.2.1 ∈ ojT
def ojFp (own : String) (ix ci j : Nat) (ty : FieldType) : Prop := ∃ (C : String) (T : u_T) (N : Nat) (tt : Nat → FieldType), vwCl[ci]? = some (C, T, N) ∧ (∀ w ∈ u_ws C T N, w ∈ ojT) ∧ j < N ∧ Cond.fieldLink own ix (T j).1 (T j).2.1 (T j).2.2.1 ∈ ojT ∧ (∀ k, k < N → parseFieldDescriptor (T k).2.2.1 = some (tt k)) ∧ (∀ a, a < N → ∀ b, b < N → a ≠ b → (T a).2.1 ≠ (T b).2.1) ∧ (T j).2.2.2 = false ∧ parseFieldDescriptor (T j).2.2.1 = some ty
section ojH
variable {α : Type} {X : ojX} {V : ojV} {Q : α → State → Prop} {x x2 : Option α} {σ : ojS} {pc : Nat} {lv : List (Nat × Value)} {rest : List Value} {own : String} {cc : ByteArray} {nL L : Nat}
theorem oj_getf (hc : ojC X V own cc nL L) {ix ci j k a : Nat} {fs : List Value} {v : Value} (hf : ojF own ix ci j) (he : (V.2.2.2 σ)[k]? = some (a, .inr (ci, fs))) (hv : fs[j]? = some v) (hd : decode cc pc = .ok (.getfield ix, 3)) (kk : ojJ X V Q x σ (pc + 3) lv (v :: rest)) : ojJ X V Q x σ pc lv (.ref a :: rest) := by
  intro o ho ls H locs g
  obtain ⟨C, T, N, h1, h2, h3, h4⟩ := hf
  exact va_get (D := V.2.1) (ci := ci) (v := v) (C := C) (T := T) (N := N) hc.1 hc.2.1 hc.2.2.2.2.1 h2 hc.2.2.2.1 hc.2.2.2.2.2.1 g.2.1 k he h1 j h3 (hc.2.2.2.2.1 _ h4) (fun _ h9 => h9) hv hd (kk o ho ls H locs g)
theorem oj_putf (hc : ojC X V own cc nL L) {ix ci j k a : Nat} {fs : List Value} {ty : FieldType} {v : Int32} {K : ojS → Option α} (hf : ojFp own ix ci j ty) (he : (V.2.2.2 σ)[k]? = some (a, .inr (ci, fs))) (hset : ∀ v : Int32, (V.2.2.2 σ).set k (a, .inr (ci, fs.set j (.int v))) = V.2.2.2 (ojU σ k j v)) (hn : narrow ty (.int v) = .int v) (hft : fits ty (.int v) = true) (hl : j < fs.length) (hd : decode cc pc = .ok (.putfield ix, 3)) (kk : ∀ σ1 : ojS, ojJ X V Q (K σ1) σ1 (pc + 3) lv rest) : ojJ X V Q (ojLet (ojU σ k j v) K) σ pc lv (.int v :: .ref a :: rest) := by
  intro o ho ls H locs g
  obtain ⟨C, T, N, tt, h1, h2, h3, h4, h5, h6, h7, h8⟩ := hf
  exact va_put (D := V.2.1) (ci := ci) (v := .int v) (ty := ty) (C := C) (T := T) (N := N) hc.1 hc.2.1 hc.2.2.2.2.1 h2 tt h5 h6 hc.2.2.2.1 hc.2.2.2.2.2.1 g.2.1 g.2.2.1 g.2.2.2 k he h1 j h3 (hc.2.2.2.2.1 _ h4) (fun _ h9 => h9) h7 h8 hn hft hl hd (fun H1 locs1 hP hD hS => kk _ o ho ls H1 locs1 ⟨g.1, by rw [← hset]; exact hP, by rw [← hset]; exact hD, hS⟩)
theorem oj_iald (hc : ojC X V own cc nL L) {k a n : Nat} (t0 : Nat) {cA : ClassId} {f : Nat → Int32} {i : Int32} (he : (V.2.2.2 σ)[k]? = some (a, .inl (cA, n, .inl f))) (ht : V.2.2.1[t0]? = some (cA, .int)) (hd : decode cc pc = .ok (.iaload, 1)) (kk : ojJ X V Q x σ (pc + 1) lv (.int (f i.toNatClampNeg) :: rest)) : ojJ X V Q (ojChk i n x) σ pc lv (.int i :: .ref a :: rest) :=
  oj_chk (fun h o ho ls H locs g => va_iald hc.1 hc.2.1 hc.2.2.2.2.2.1 g.2.1 k t0 he ht h hd (kk o ho ls H locs g))
theorem oj_zald (hc : ojC X V own cc nL L) {k a n : Nat} (t0 : Nat) {cA : ClassId} {f : Nat → Int32} {i : Int32} (he : (V.2.2.2 σ)[k]? = some (a, .inl (cA, n, .inl f))) (ht : V.2.2.1[t0]? = some (cA, .boolean)) (hd : decode cc pc = .ok (.baload, 1)) (kk : ojJ X V Q x σ (pc + 1) lv (.int (f i.toNatClampNeg) :: rest)) : ojJ X V Q (ojChk i n x) σ pc lv (.int i :: .ref a :: rest) :=
  oj_chk (fun h o ho ls H locs g => va_zald hc.1 hc.2.1 hc.2.2.2.2.2.1 g.2.1 k t0 he ht h hd (kk o ho ls H locs g))
theorem oj_aald (hc : ojC X V own cc nL L) {k a n : Nat} (t0 : Nat) {cA : ClassId} {C : String} {f : Nat → Nat} {i : Int32} (he : (V.2.2.2 σ)[k]? = some (a, .inl (cA, n, .inr (.inr (.inr (.inr (fun j => some (f j)))))))) (ht : V.2.2.1[t0]? = some (cA, .object C)) (hd : decode cc pc = .ok (.aaload, 1)) (kk : i.toNatClampNeg < n → ojJ X V Q x σ (pc + 1) lv (.ref (f i.toNatClampNeg) :: rest)) : ojJ X V Q (ojChk i n x) σ pc lv (.int i :: .ref a :: rest) :=
  oj_chk (fun h o ho ls H locs g => va_aldq hc.1 hc.2.1 hc.2.2.2.2.2.1 g.2.1 k t0 he ht h hd (kk (Nat.not_le.mp fun q => h (Or.inr q)) o ho ls H locs g))
theorem oj_iast (hc : ojC X V own cc nL L) {k a n : Nat} (t0 : Nat) {cA : ClassId} {f : Nat → Int32} {i v : Int32} {K : ojS → Option α} (he : (V.2.2.2 σ)[k]? = some (a, .inl (cA, n, .inl f))) (hset : ∀ f', (V.2.2.2 σ).set k (a, .inl (cA, n, .inl f')) = V.2.2.2 (ojW σ k f')) (hf : f = σ k) (ht : V.2.2.1[t0]? = some (cA, .int)) (hd : decode cc pc = .ok (.iastore, 1)) (kk : ∀ σ1 : ojS, ojJ X V Q (K σ1) σ1 (pc + 1) lv rest) : ojJ X V Q (ojChk i n (ojLet (ojU σ k i.toNatClampNeg v) K)) σ pc lv (.int v :: .int i :: .ref a :: rest) :=
  oj_chk (fun h o ho ls H locs g => va_iast hc.1 hc.2.1 hc.2.2.2.2.2.1 g.2.1 g.2.2.1 g.2.2.2 k t0 he ht h hd (fun H1 locs1 hP hD hS => by
    rw [hset, hf] at hP hD
    exact kk _ o ho ls H1 locs1 ⟨g.1, hP, hD, hS⟩))
theorem oj_zast (hc : ojC X V own cc nL L) {k a n : Nat} (t0 : Nat) {cA : ClassId} {f : Nat → Int32} {i v : Int32} {K : ojS → Option α} (he : (V.2.2.2 σ)[k]? = some (a, .inl (cA, n, .inl f))) (hset : ∀ f', (V.2.2.2 σ).set k (a, .inl (cA, n, .inl f')) = V.2.2.2 (ojW σ k f')) (hf : f = σ k) (ht : V.2.2.1[t0]? = some (cA, .boolean)) (hd : decode cc pc = .ok (.bastore, 1)) (kk : ∀ σ1 : ojS, ojJ X V Q (K σ1) σ1 (pc + 1) lv rest) : ojJ X V Q (ojChk i n (ojLet (ojU σ k i.toNatClampNeg (vp_nar .boolean v)) K)) σ pc lv (.int v :: .int i :: .ref a :: rest) :=
  oj_chk (fun h o ho ls H locs g => va_zast hc.1 hc.2.1 hc.2.2.2.2.2.1 g.2.1 g.2.2.1 g.2.2.2 k t0 he ht h hd (fun H1 locs1 hP hD hS => by
    rw [hset, hf] at hP hD
    exact kk _ o ho ls H1 locs1 ⟨g.1, hP, hD, hS⟩))
theorem oj_tableOut (hc : ojC X V own cc nL L) {dflt lo hi : Int} {offs : Array Int} {len : Nat} {v : Int32} (tgt : Nat) (hd : decode cc pc = .ok (.tableswitch dflt lo hi offs, len)) (h : v.toInt < lo ∨ hi < v.toInt) (ht : (pc : Int) + dflt = (tgt : Int)) (kk : ojJ X V Q x σ tgt lv rest) : ojJ X V Q x σ pc lv (.int v :: rest) :=
  fun o ho ls H locs g => lv_tableOut hc.1 hc.2.1 hd h ht (kk o ho ls H locs g)
theorem oj_tableIn (hc : ojC X V own cc nL L) {dflt lo hi : Int} {offs : Array Int} {len : Nat} {v : Int32} {off : Int} (tgt : Nat) (hd : decode cc pc = .ok (.tableswitch dflt lo hi offs, len)) (h1 : ¬ v.toInt < lo) (h2 : ¬ hi < v.toInt) (hof : offs[(v.toInt - lo).toNat]? = some off) (ht : (pc : Int) + off = (tgt : Int)) (kk : ojJ X V Q x σ tgt lv rest) : ojJ X V Q x σ pc lv (.int v :: rest) :=
  fun o ho ls H locs g => lv_tableIn hc.1 hc.2.1 hd h1 h2 hof ht (kk o ho ls H locs g)
theorem oj_ite {p : Prop} [Decidable p] {st : List Value} (h1 : p → ojJ X V Q x σ pc lv st) (h2 : ¬ p → ojJ X V Q x2 σ pc lv st) : ojJ X V Q (if p then x else x2) σ pc lv st := by
  by_cases h : p
  · rw [if_pos h]; exact h1 h
  · rw [if_neg h]; exact h2 h
theorem oj_fix {γ : Type} {bot : γ} (P : γ → Prop) (F : γ → γ) (h0 : P bot) (hs : ∀ r, P r → P (F r)) : ∀ n, P (ojFix bot n F)
  | 0 => h0
  | n + 1 => hs _ (oj_fix P F h0 hs n)
theorem oj_join {γ : Type} {k : γ} {b : γ → Option α} {st : List Value} (P : γ → Prop) (hk : P k) (hb : ∀ k', P k' → ojJ X V Q (b k') σ pc lv st) : ojJ X V Q (ojJoin k b) σ pc lv st := hb k hk
end ojH
/-! contracts -/
def ojPc (V : ojV) (av : List Value) (σ : ojS) (sz : Nat) : Array Value → State → Prop := va_Pc av (fun U => U.heap.size = sz ∧ va_P V.2.1 vwCl (V.2.2.2 σ) U.heap ∧ va_K V.2.1 vwCl V.2.2.1 U ∧ va_D (fun _ => True) (V.2.2.2 σ))
def ojB (V : ojV) (A : Nat → Prop) (σ : ojS) (t : State) : Prop := va_P V.2.1 vwCl (V.2.2.2 σ) t.heap ∧ va_K V.2.1 vwCl V.2.2.1 t ∧ va_D A (V.2.2.2 σ)
abbrev ojWs (y : MethodName) (cc : ByteArray) (maxL : Nat) (ret : Option FieldType) : List Cond := Cond.code y cc maxL ret :: ojT
def ojMi (V : ojV) (y : MethodName) (cc : ByteArray) (maxL : Nat) (ret : Option FieldType) (L : Nat) (av : List Value) (σ : ojS) (r : Int32) (σ' : ojS) : Prop :=
  ∀ sz : Nat, Met V.1 y (ojWs y cc maxL ret) (ojRm L) (ojPc V av σ sz) (va_Qi (fun r' u => r' = r ∧ u = σ') (ojB V (va_A (V.2.2.2 σ) sz)) (va_A (V.2.2.2 σ) sz)) 0 0 (va_A (V.2.2.2 σ) sz)
def ojMv (V : ojV) (y : MethodName) (cc : ByteArray) (maxL : Nat) (ret : Option FieldType) (L : Nat) (av : List Value) (σ : ojS) (σ' : ojS) : Prop :=
  ∀ sz : Nat, Met V.1 y (ojWs y cc maxL ret) (ojRm L) (ojPc V av σ sz) (va_Qv (fun u => u = σ') (ojB V (va_A (V.2.2.2 σ) sz)) (va_A (V.2.2.2 σ) sz)) 0 0 (va_A (V.2.2.2 σ) sz)
theorem ojPc_blind {V : ojV} {av : List Value} {σ : ojS} {sz : Nat} : FrameBlind (ojPc V av σ sz) := fun a U g mk q => by
  obtain ⟨q0, q1, qP, qK, qD⟩ := q
  exact ⟨q0, q1, qP, va_K.moved (u := U) (U := U.calling g mk a) (Vm.Alike.refl U.vm) qK, qD⟩
section ojM
variable {V : ojV} {y : MethodName} {cc : ByteArray} {maxL L : Nat} {own : String} {ret : Option FieldType} {av : List Value} {σ : ojS} {lv0 : List (Nat × Value)}
theorem ojMi_W {x : Option (Int32 × ojS)} (hy : plainName y.cls = true) (hown : y.cls = own) (ty : FieldType) (hret : ret = some ty) (hlen : (lg_sl av).length ≤ maxL) (hlv : lv_args 0 av = lv0)
    (body : ∀ (X : ojX) (Q : Int32 × ojS → State → Prop), ojC X V own cc maxL L → (∀ (v : Int32) (σ1 : ojS) (pc : Nat) (lv : List (Nat × Value)), narrow ty (.int v) = .int v → decode cc pc = .ok (.ireturn, 1) → ojJ X V Q (some (v, σ1)) σ1 pc lv [.int v]) → ojJ X V Q x σ 0 lv0 []) :
    ∀ (r : Int32) (σ' : ojS), x = some (r, σ') → ojMi V y cc maxL ret L av σ r σ' := by
  intro r σ' hxx sz
  refine Met.ofW (cc := cc) (maxL := maxL) (ret := ret) hy rfl ?_
  intro p e s m args below meth c s₁ B hml hv
  obtain ⟨rfl, hsz, hP, hK, hD0⟩ := hv
  have hx := B.exec
  have hb := B.bytes
  have hr := B.returns
  have hts := atoms_spec (ws := ojWs y cc maxL ret) B.pre
  have hcl : s.vm.findClass own = some m.cls := by rw [← hown]; exact findClass_of_methodNamed B.named
  have hlocks := B.notSynchronized
  subst hsz
  have hD := hD0.self (sz := s.heap.size)
  have hl := lv_entry av hlen
  rw [lg_entry_eq]
  rw [hlv] at hl
  refine body (p, e, (headSpec (ojWs y cc maxL ret) (ojRm L)).room, s, m, av.toArray, below, meth, c, va_A (V.2.2.2 σ) s.heap.size, maxL) (fun o => MQ below (va_Qi (fun r' u => r' = o.1 ∧ u = o.2) (ojB V (va_A (V.2.2.2 σ) s.heap.size)) (va_A (V.2.2.2 σ) s.heap.size)) av.toArray s 0 0 (va_A (V.2.2.2 σ) s.heap.size)) ⟨hx, hb, hml, hcl, fun w hw => hts w (List.mem_cons_of_mem _ hw), hK, rfl, rfl, fun q h => Or.inr h⟩ ?_ (r, σ') hxx _ _ _ ⟨hl, hP, hD, va_S.rf⟩
  intro v σ1 pc lv hn hd o ho ls H locs g
  cases ho
  obtain ⟨g1, g2, g3, g4⟩ := g
  exact W.zret (ty := ty) (v := v) hx hb (by rw [hr, hret]) hn (fun t ht hW => ⟨⟨v, σ1, rfl, ⟨rfl, rfl⟩, by rw [ht]; exact g2, va_K.moved hW.alike hK, g3⟩, g4.F ht⟩) g4.2.2 hd
theorem ojMi_R {x : Option Int32} (hy : plainName y.cls = true) (hown : y.cls = own) (ty : FieldType) (hret : ret = some ty) (hlen : (lg_sl av).length ≤ maxL) (hlv : lv_args 0 av = lv0)
    (body : ∀ (X : ojX) (Q : Int32 → State → Prop), ojC X V own cc maxL L → (∀ (v : Int32) (pc : Nat) (lv : List (Nat × Value)), narrow ty (.int v) = .int v → decode cc pc = .ok (.ireturn, 1) → ojJ X V Q (some v) σ pc lv [.int v]) → ojJ X V Q x σ 0 lv0 []) :
    ∀ (r : Int32), x = some r → ojMi V y cc maxL ret L av σ r σ := by
  intro r hxx
  refine ojMi_W (x := some (r, σ)) hy hown ty hret hlen hlv (fun X Q hc hq => ?_) r σ rfl
  intro o ho
  cases ho
  exact body X (fun v => Q (v, σ)) hc (fun v pc lv hn hd o ho ls H locs g => by cases ho; exact hq v σ pc lv hn hd (v, σ) rfl ls H locs g) r hxx
theorem ojMv_W {x : Option ojS} (hy : plainName y.cls = true) (hown : y.cls = own) (hret : ret = none) (hlen : (lg_sl av).length ≤ maxL) (hlv : lv_args 0 av = lv0)
    (body : ∀ (X : ojX) (Q : ojS → State → Prop), ojC X V own cc maxL L → (∀ (σ1 : ojS) (pc : Nat) (lv : List (Nat × Value)), decode cc pc = .ok (.return_, 1) → ojJ X V Q (some σ1) σ1 pc lv []) → ojJ X V Q x σ 0 lv0 []) :
    ∀ (σ' : ojS), x = some σ' → ojMv V y cc maxL ret L av σ σ' := by
  intro σ' hxx sz
  refine Met.ofW (cc := cc) (maxL := maxL) (ret := ret) hy rfl ?_
  intro p e s m args below meth c s₁ B hml hv
  obtain ⟨rfl, hsz, hP, hK, hD0⟩ := hv
  have hx := B.exec
  have hb := B.bytes
  have hr := B.returns
  have hts := atoms_spec (ws := ojWs y cc maxL ret) B.pre
  have hcl : s.vm.findClass own = some m.cls := by rw [← hown]; exact findClass_of_methodNamed B.named
  have hlocks := B.notSynchronized
  subst hsz
  have hD := hD0.self (sz := s.heap.size)
  have hl := lv_entry av hlen
  rw [lg_entry_eq]
  rw [hlv] at hl
  refine body (p, e, (headSpec (ojWs y cc maxL ret) (ojRm L)).room, s, m, av.toArray, below, meth, c, va_A (V.2.2.2 σ) s.heap.size, maxL) (fun o => MQ below (va_Qv (fun u => u = o) (ojB V (va_A (V.2.2.2 σ) s.heap.size)) (va_A (V.2.2.2 σ) s.heap.size)) av.toArray s 0 0 (va_A (V.2.2.2 σ) s.heap.size)) ⟨hx, hb, hml, hcl, fun w hw => hts w (List.mem_cons_of_mem _ hw), hK, rfl, rfl, fun q h => Or.inr h⟩ ?_ σ' hxx _ _ _ ⟨hl, hP, hD, va_S.rf⟩
  intro σ1 pc lv hd o ho ls H locs g
  cases ho
  obtain ⟨g1, g2, g3, g4⟩ := g
  exact W.vret hx hb (by rw [hr, hret]) (fun t ht hW => ⟨⟨σ1, rfl, rfl, by rw [ht]; exact g2, va_K.moved hW.alike hK, g3⟩, g4.F ht⟩) g4.2.2 hd
end ojM
/-! calls -/
def ojCW (own : String) (ix : Nat) (y : MethodName) (cc : ByteArray) (maxL : Nat) (ret : Option FieldType) (n : Nat) : Prop :=
  Cond.methodLink own ix y ∈ ojT ∧ Cond.initialized y.cls ∈ ojT ∧ Cond.code y cc maxL ret ∈ ojT ∧ (y.cls ≠ "java/lang/invoke/MethodHandle" ∧ y.cls ≠ "java/lang/invoke/VarHandle" ∧ (parseMethodDescriptor y.desc).map (fun d => d.parameters.length) = some n) ∧ maxL ≤ 41
theorem oj_callB {R : Room} {s : State} {args : Array Value} {own : String} {ix : Nat} {y : MethodName} {cc : ByteArray} {maxL n L Lc : Nat} {ret : Option FieldType} (ht : ∀ w ∈ ojT, w.before args s = true) (h : ojCW own ix y cc maxL ret n) (hR : R = ojRm L) (hL : Lc + 1 ≤ L) : CallB R s args own ix y cc maxL ret (ojWs y cc maxL ret) (ojRm Lc) 0 0 n := by
  obtain ⟨h1, h2, h3, h4, h5⟩ := h
  refine callB_of n ht (fun w hw => ?_) rfl rfl rfl (ht _ h2) (ht _ h1) h4 ?_
  · rcases List.mem_cons.mp hw with rfl | hw
    · exact ⟨h3, ojT_good h3⟩
    · exact ⟨hw, ojT_good hw⟩
  · subst hR
    exact ⟨hL, by show 8 + (maxL + 11) + 60 * Lc ≤ 60 * L; omega⟩
section ojK
variable {α : Type} {X : ojX} {V : ojV} {Q : α → State → Prop} {σ : ojS} {pc : Nat} {lv : List (Nat × Value)} {rest st : List Value} {own : String} {cc bytes : ByteArray} {nL L maxL n ix Lc : Nat} {y : MethodName} {ret : Option FieldType}
theorem oj_free {A : Nat → Prop} {ws : va_W} {H0 H : Heap} {locs : List Loc} (hD : va_D A ws) (hS : va_S A H0 H locs) (hA : ∀ q, H0.size ≤ q → A q) : ∀ q, va_A ws H.size q → A q := by
  intro q h
  rcases h with ⟨k, e, h⟩ | h
  · exact hD.2 k (q, e) h
  · exact hA q (Nat.le_trans hS.1 h)
theorem oj_calli {g : Option (Int32 × ojS)} {K : Int32 → ojS → Option α} {av : List Value} (hc : ojC X V own cc nL L)
    (hrun : ∀ (r : Int32) (σ1 : ojS) (ls : Array Slot) (H : Heap) (locs : List Loc), g = some (r, σ1) → ojG X V σ lv ls H locs → va_Run X.1 V.1 X.2.1 X.2.2.1 X.2.2.2.1 X.2.2.2.2.1 X.2.2.2.2.2.1 X.2.2.2.2.2.2.1 X.2.2.2.2.2.2.2.1 X.2.2.2.2.2.2.2.2.1 H locs 0 0 0 0 (F0 X.2.2.2.2.1 pc ls st) rest (va_Qi (fun r' u => r' = r ∧ u = σ1) (ojB V (va_A (V.2.2.2 σ) H.size)) (va_A (V.2.2.2 σ) H.size) av.toArray) (va_A (V.2.2.2 σ) H.size))
    (kk : ∀ (r : Int32) (σ1 : ojS), ojJ X V Q (K r σ1) σ1 (pc + 3) lv (.int r :: rest)) : ojJ X V Q (ojB2 g K) σ pc lv st := by
  intro o ho ls H locs G
  cases hg : g with
  | none => rw [hg] at ho; cases ho
  | some q =>
    obtain ⟨r, σ1⟩ := q
    rw [hg] at ho
    have hF := oj_free G.2.2.1 G.2.2.2 hc.2.2.2.2.2.2.2.2
    refine va_calli (hrun r σ1 ls H locs hg G) G.2.2.2 (fun q _ h => hF q h) hF (fun r2 u t H1 locs1 ht hvm hw hB hz1 hk1 hS => ?_)
    obtain ⟨rfl, rfl⟩ := hw
    obtain ⟨hP1, hK1, hD1⟩ := hB
    rw [ht] at hP1
    exact kk r2 u o ho ls H1 locs1 ⟨G.1, hP1, hD1.weaken (fun _ q _ h => hF q.1 h), hS⟩
theorem oj_callv {g : Option ojS} {K : ojS → Option α} {av : List Value} (hc : ojC X V own cc nL L)
    (hrun : ∀ (σ1 : ojS) (ls : Array Slot) (H : Heap) (locs : List Loc), g = some σ1 → ojG X V σ lv ls H locs → va_Run X.1 V.1 X.2.1 X.2.2.1 X.2.2.2.1 X.2.2.2.2.1 X.2.2.2.2.2.1 X.2.2.2.2.2.2.1 X.2.2.2.2.2.2.2.1 X.2.2.2.2.2.2.2.2.1 H locs 0 0 0 0 (F0 X.2.2.2.2.1 pc ls st) rest (va_Qv (fun u => u = σ1) (ojB V (va_A (V.2.2.2 σ) H.size)) (va_A (V.2.2.2 σ) H.size) av.toArray) (va_A (V.2.2.2 σ) H.size))
    (kk : ∀ (σ1 : ojS), ojJ X V Q (K σ1) σ1 (pc + 3) lv rest) : ojJ X V Q (ojBv g K) σ pc lv st := by
  intro o ho ls H locs G
  cases hg : g with
  | none => rw [hg] at ho; cases ho
  | some σ1 =>
    rw [hg] at ho
    have hF := oj_free G.2.2.1 G.2.2.2 hc.2.2.2.2.2.2.2.2
    refine va_callv (hrun σ1 ls H locs hg G) G.2.2.2 (fun q _ h => hF q h) hF (fun u t H1 locs1 ht hvm hw hB hz1 hk1 hS => ?_)
    subst hw
    obtain ⟨hP1, hK1, hD1⟩ := hB
    rw [ht] at hP1
    exact kk u o ho ls H1 locs1 ⟨G.1, hP1, hD1.weaken (fun _ q _ h => hF q.1 h), hS⟩
theorem oj_pre {S : State} {H : Heap} {A : Nat → Prop} {H0 : Heap} {locs : List Loc} {av : List Value} (hK : va_K V.2.1 vwCl V.2.2.1 S) (hP : va_P V.2.1 vwCl (V.2.2.2 σ) H) (hD : va_D A (V.2.2.2 σ)) : ∀ U : State, U.heap = H → S.WarmedH U.vm → ojPc V av σ H.size av.toArray U :=
  fun U hU hW => ⟨rfl, by rw [hU], by rw [hU]; exact hP, va_K.moved hW.alike hK, hD.weaken (fun _ _ _ _ => trivial)⟩
def ojCV (own : String) (ix : Nat) (y : MethodName) (cc : ByteArray) (maxL : Nat) (ret : Option FieldType) (n ci : Nat) : Prop :=
  ojCW own ix y cc maxL ret n ∧ Cond.instanceMethod y ∈ ojT ∧ Cond.selects y.cls y y ∈ ojT ∧ ∃ q : vw_C, vwCl[ci]? = some q ∧ q.1 = y.cls
def ojCS (own : String) (ix : Nat) (y : MethodName) (cc : ByteArray) (maxL : Nat) (ret : Option FieldType) (n : Nat) : Prop :=
  ojCW own ix y cc maxL ret n ∧ Cond.static y ∈ ojT
theorem oj_cV2 {g : Option (Int32 × ojS)} {K : Int32 → ojS → Option α} {k b ci : Nat} {fs : List Value} (hc : ojC X V own cc nL L) (hw : ojCV own ix y bytes maxL ret n ci) (hL : Lc + 1 ≤ L) (he : (V.2.2.2 σ)[k]? = some (b, .inr (ci, fs))) (As rest : List Value) (hn : As.length = n) (hst : st = As.reverse ++ .ref b :: rest) (hrs : (rest.map fun v => v.category).sum ≤ 8) (hd : decode cc pc = .ok (.invokevirtual ix, 3))
    (hM : ∀ (r : Int32) (σ1 : ojS), g = some (r, σ1) → ojMi V y bytes maxL ret Lc (.ref b :: As) σ r σ1)
    (kk : ∀ (r : Int32) (σ1 : ojS), ojJ X V Q (K r σ1) σ1 (pc + 3) lv (.int r :: rest)) : ojJ X V Q (ojB2 g K) σ pc lv st := by
  obtain ⟨hw1, hw2, hw3, q, hq, hqc⟩ := hw
  refine oj_calli (av := .ref b :: As) hc (fun r σ1 ls H locs hg G => ?_) kk
  have hcc := hc
  obtain ⟨h1, h2, h3, h4, h5, h6, h7, h8, h9⟩ := hcc
  have hrec := va_recv h6 G.2.1 hq he
  rw [hqc] at hrec
  exact va_runV (As := As) (rest := rest) (C := y.cls) ⟨h1, h2, h3, h4, h5⟩ (hM r σ1 hg H.size) ⟨oj_callB h5 hw1 h8 hL, h5 _ hw2, h5 _ hw3⟩ ⟨ojPc_blind, hrec, oj_pre (locs := locs) (H0 := X.2.2.2.1.heap) h6 G.2.1 G.2.2.1⟩ rfl hn (G.1.1.trans h7) hst (lv_room hrs) hd ⟨Nat.zero_le _, Nat.zero_le _⟩
theorem oj_cV1 {g : Option Int32} {K : Int32 → Option α} {k b ci : Nat} {fs : List Value} (hc : ojC X V own cc nL L) (hw : ojCV own ix y bytes maxL ret n ci) (hL : Lc + 1 ≤ L) (he : (V.2.2.2 σ)[k]? = some (b, .inr (ci, fs))) (As rest : List Value) (hn : As.length = n) (hst : st = As.reverse ++ .ref b :: rest) (hrs : (rest.map fun v => v.category).sum ≤ 8) (hd : decode cc pc = .ok (.invokevirtual ix, 3))
    (hM : ∀ (r : Int32), g = some r → ojMi V y bytes maxL ret Lc (.ref b :: As) σ r σ)
    (kk : ∀ (r : Int32), ojJ X V Q (K r) σ (pc + 3) lv (.int r :: rest)) : ojJ X V Q (ojB1 g K) σ pc lv st := by
  classical
  intro o ho
  cases hg : g with
  | none => rw [hg] at ho; cases ho
  | some r =>
    rw [hg] at ho
    refine oj_cV2 (g := some (r, σ)) (K := fun r1 σ1 => if σ1 = σ ∧ r1 = r then K r else none) hc hw hL he As rest hn hst hrs hd (fun r' σ' h => by cases h; exact hM r hg) (fun r1 σ1 => ?_) o (by
      show (if σ = σ ∧ r = r then K r else none) = some o
      rw [if_pos ⟨rfl, rfl⟩]; exact ho)
    by_cases hq : σ1 = σ ∧ r1 = r
    · rw [if_pos hq, hq.1, hq.2]; exact kk r
    · rw [if_neg hq]; exact oj_none
theorem oj_cVv {g : Option ojS} {K : ojS → Option α} {k b ci : Nat} {fs : List Value} (hc : ojC X V own cc nL L) (hw : ojCV own ix y bytes maxL ret n ci) (hL : Lc + 1 ≤ L) (he : (V.2.2.2 σ)[k]? = some (b, .inr (ci, fs))) (As rest : List Value) (hn : As.length = n) (hst : st = As.reverse ++ .ref b :: rest) (hrs : (rest.map fun v => v.category).sum ≤ 8) (hd : decode cc pc = .ok (.invokevirtual ix, 3))
    (hM : ∀ (σ1 : ojS), g = some σ1 → ojMv V y bytes maxL ret Lc (.ref b :: As) σ σ1)
    (kk : ∀ (σ1 : ojS), ojJ X V Q (K σ1) σ1 (pc + 3) lv rest) : ojJ X V Q (ojBv g K) σ pc lv st := by
  obtain ⟨hw1, hw2, hw3, q, hq, hqc⟩ := hw
  refine oj_callv (av := .ref b :: As) hc (fun σ1 ls H locs hg G => ?_) kk
  have hcc := hc
  obtain ⟨h1, h2, h3, h4, h5, h6, h7, h8, h9⟩ := hcc
  have hrec := va_recv h6 G.2.1 hq he
  rw [hqc] at hrec
  exact va_runV (As := As) (rest := rest) (C := y.cls) ⟨h1, h2, h3, h4, h5⟩ (hM σ1 hg H.size) ⟨oj_callB h5 hw1 h8 hL, h5 _ hw2, h5 _ hw3⟩ ⟨ojPc_blind, hrec, oj_pre (locs := locs) (H0 := X.2.2.2.1.heap) h6 G.2.1 G.2.2.1⟩ rfl hn (G.1.1.trans h7) hst (lv_room hrs) hd ⟨Nat.zero_le _, Nat.zero_le _⟩
theorem oj_cS1 {g : Option Int32} {K : Int32 → Option α} (hc : ojC X V own cc nL L) (hw : ojCS own ix y bytes maxL ret n) (hL : Lc + 1 ≤ L) (As rest : List Value) (hn : As.length = n) (hst : st = As.reverse ++ rest) (hrs : (rest.map fun v => v.category).sum ≤ 8) (hd : decode cc pc = .ok (.invokestatic ix, 3))
    (hM : ∀ (r : Int32), g = some r → ojMi V y bytes maxL ret Lc As σ r σ)
    (kk : ∀ (r : Int32), ojJ X V Q (K r) σ (pc + 3) lv (.int r :: rest)) : ojJ X V Q (ojB1 g K) σ pc lv st := by
  classical
  intro o ho
  cases hg : g with
  | none => rw [hg] at ho; cases ho
  | some r =>
    rw [hg] at ho
    refine oj_calli (av := As) (rest := rest) (g := some (r, σ)) (K := fun r1 σ1 => if σ1 = σ ∧ r1 = r then K r else none) hc (fun r' σ' ls H locs h G => ?_) (fun r1 σ1 => ?_) o (by
      show (if σ = σ ∧ r = r then K r else none) = some o
      rw [if_pos ⟨rfl, rfl⟩]; exact ho)
    · cases h
      have hcc := hc
      obtain ⟨h1, h2, h3, h4, h5, h6, h7, h8, h9⟩ := hcc
      exact va_runS (As := As) (rest := rest) ⟨h1, h2, h3, h4, h5⟩ (hM r hg H.size) ⟨oj_callB h5 hw.1 h8 hL, h5 _ hw.2⟩ ⟨ojPc_blind, oj_pre (locs := locs) (H0 := X.2.2.2.1.heap) h6 G.2.1 G.2.2.1⟩ rfl hn (G.1.1.trans h7) hst (lv_room hrs) hd ⟨Nat.zero_le _, Nat.zero_le _⟩
    · by_cases hq : σ1 = σ ∧ r1 = r
      · rw [if_pos hq, hq.1, hq.2]; exact kk r
      · rw [if_neg hq]; exact oj_none
end ojK

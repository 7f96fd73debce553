/-! the calculus: a pure text x (an Option) that the code at pc computes, over worlds of ints -/
def ojT : List Cond := lw_tbl.filter goodWord
theorem ojT_in {w : Cond} (h : w ∈ lw_tbl) (g : goodWord w = true) : w ∈ ojT := List.mem_filter.mpr ⟨h, g⟩
theorem ojT_good {w : Cond} (h : w ∈ ojT) : (w.onTables && w.keeps) = true ∨ ∃ ty, w = .arrayClass ty := good_of_word (List.mem_filter.mp h).2
theorem ojT_sub {args : Array Value} {s : State} (h : ∀ w ∈ lw_tbl, w.before args s = true) : ∀ w ∈ ojT, w.before args s = true := fun w hw => h w (List.mem_filter.mp hw).1
abbrev ojS : Type := Nat → Nat → Int32
def ojW (σ : ojS) (k : Nat) (f : Nat → Int32) : ojS := fun k' => if k' = k then f else σ k'
def ojU (σ : ojS) (k j : Nat) (v : Int32) : ojS := ojW σ k (upd (σ k) j v)
def ojChk {α : Type} (i : Int32) (n : Nat) (x : Option α) : Option α := if i < 0 ∨ n ≤ i.toNatClampNeg then none else x
def ojNz {α : Type} (y : Int32) (x : Option α) : Option α := if y = 0 then none else x
def ojNzL {α : Type} (y : Int64) (x : Option α) : Option α := if y = 0 then none else x
def ojBl {α : Type} (v : Int32) (x : Option α) : Option α := if v = 0 ∨ v = 1 then x else none
def ojLet {α β : Type} (v : β) (k : β → Option α) : Option α := k v
def ojB1 {α : Type} (g : Option Int32) (k : Int32 → Option α) : Option α := match g with
  | none => none
  | some r => k r
def ojB2 {α : Type} (g : Option (Int32 × ojS)) (k : Int32 → ojS → Option α) : Option α := match g with
  | none => none
  | some q => k q.1 q.2
def ojBv {α : Type} (g : Option ojS) (k : ojS → Option α) : Option α := match g with
  | none => none
  | some q => k q
def ojFix {γ : Type} (bot : γ) : Nat → (γ → γ) → γ
  | 0, _ => bot
  | n + 1, F => F (ojFix bot n F)
def ojJoin {α γ : Type} (k : γ) (b : γ → Option α) : Option α := b k
def ojMin (x y : Int32) : Int32 := if y < x then y else x
def ojMax (x y : Int32) : Int32 := if x < y then y else x
def ojAbs (x : Int32) : Int32 := if 0 ≤ x then x else 0 - x
def ojRem (x y : Int32) : Int32 := x - x / y * y
def ojRemL (x y : Int64) : Int64 := x - x / y * y
def ojRm (L : Nat) : Room := { frames := L, cells := 0, slots := 0, locals := 60 * L }
abbrev ojV : Type := Launch × va_G × List (ClassId × FieldType) × (ojS → va_W)
abbrev ojX : Type := Program × Env × Room × State × MethodId × Array Value × List Frame × Method × Code × (Nat → Prop) × Nat
abbrev ojWW (X : ojX) (V : ojV) (H : Heap) (locs : List Loc) (Q : State → Prop) (g : JFrame) : Prop :=
  W X.1 V.1 X.2.1 X.2.2.1 X.2.2.2.1 X.2.2.2.2.1 X.2.2.2.2.2.1 X.2.2.2.2.2.2.1 X.2.2.2.2.2.2.2.1 X.2.2.2.2.2.2.2.2.1 H locs 0 0 Q g
def ojG (X : ojX) (V : ojV) (σ : ojS) (lv : List (Nat × Value)) (ls : Array Slot) (H : Heap) (locs : List Loc) : Prop :=
  lv_has ls X.2.2.2.2.2.2.2.2.2.2 lv ∧ va_P V.2.1 vwCl (V.2.2.2 σ) H ∧ va_D X.2.2.2.2.2.2.2.2.2.1 (V.2.2.2 σ) ∧ va_S X.2.2.2.2.2.2.2.2.2.1 X.2.2.2.1.heap H locs
def ojJ {α : Type} (X : ojX) (V : ojV) (Q : α → State → Prop) (x : Option α) (σ : ojS) (pc : Nat) (lv : List (Nat × Value)) (st : List Value) : Prop :=
  ∀ o, x = some o → ∀ (ls : Array Slot) (H : Heap) (locs : List Loc), ojG X V σ lv ls H locs → ojWW X V H locs (Q o) (F0 X.2.2.2.2.1 pc ls st)
def ojC (X : ojX) (V : ojV) (own : String) (cc : ByteArray) (nL L : Nat) : Prop :=
  X.1.tables.exec = Jvm.exec ∧ X.2.2.2.2.2.2.2.2.1.code = cc ∧ X.2.2.2.2.2.2.2.2.1.maxLocals = nL ∧ X.2.2.2.1.vm.findClass own = some X.2.2.2.2.1.cls ∧ (∀ w ∈ ojT, w.before X.2.2.2.2.2.1 X.2.2.2.1 = true) ∧ va_K V.2.1 vwCl V.2.2.1 X.2.2.2.1 ∧ X.2.2.2.2.2.2.2.2.2.2 = nL ∧ X.2.2.1 = ojRm L ∧ ∀ q, X.2.2.2.1.heap.size ≤ q → X.2.2.2.2.2.2.2.2.2.1 q
def ojIns (x : Nat × Value) : List (Nat × Value) → List (Nat × Value)
  | [] => [x]
  | y :: t => if x.1 < y.1 then x :: y :: t else y :: ojIns x t
def ojSt (lv : List (Nat × Value)) (i : Nat) (v : Value) : List (Nat × Value) := ojIns (i, v) (lv.filter (fun q => !(q.1 == i) && !(q.1 + 1 == i && q.2.category == 2)))
def ojStL (lv : List (Nat × Value)) (i : Nat) (v : Value) : List (Nat × Value) := ojIns (i, v) (lv.filter (fun q => !(q.1 == i) && (!(q.1 == i + 1) && !(q.1 + 1 == i && q.2.category == 2))))
theorem ojIns_mem {x q : Nat × Value} : ∀ {t : List (Nat × Value)}, q ∈ ojIns x t → q ∈ x :: t
  | [], h => h
  | y :: t, h => by
    unfold ojIns at h
    split at h
    · exact h
    · rcases List.mem_cons.mp h with h | h
      · exact List.mem_cons_of_mem _ (List.mem_cons.mpr (Or.inl h))
      · rcases List.mem_cons.mp (ojIns_mem h) with h | h
        · exact List.mem_cons.mpr (Or.inl h)
        · exact List.mem_cons_of_mem _ (List.mem_cons_of_mem _ h)
theorem oj_has {ls : Array Slot} {n : Nat} {l l' : List (Nat × Value)} (h : lv_has ls n l) (hs : ∀ q ∈ l', q ∈ l) : lv_has ls n l' := ⟨h.1, h.2.1, fun q hq => h.2.2 q (hs q hq)⟩
theorem oj_get {ls : Array Slot} {n : Nat} {l : List (Nat × Value)} (h : lv_has ls n l) {k i : Nat} {v : Value} (hk : l[k]? = some (i, v)) : ls[i]? = some (.val v) := lv_at h k hk
section ojR
variable {α : Type} {X : ojX} {V : ojV} {Q : α → State → Prop} {x x2 : Option α} {σ : ojS} {pc : Nat} {lv : List (Nat × Value)} {rest : List Value} {own : String} {cc : ByteArray} {nL L : Nat}
theorem oj_none : ojJ X V Q none σ pc lv rest := fun o h => by cases h
theorem oj_iload_n (hc : ojC X V own cc nL L) {k : Fin 4} {i : Nat} {v : Int32} (hd : decode cc pc = .ok (.iload_n k, 1)) (hi : (k : Nat) = i) (n : Nat) (hl : lv[n]? = some (i, .int v)) (kk : ojJ X V Q x σ (pc + 1) lv (.int v :: rest)) : ojJ X V Q x σ pc lv rest :=
  fun o ho ls H locs g => lv_iload_n hc.1 hc.2.1 hd hi (oj_get g.1 hl) (kk o ho ls H locs g)
theorem oj_iload (hc : ojC X V own cc nL L) {i : Nat} {v : Int32} (hd : decode cc pc = .ok (.iload i, 2)) (n : Nat) (hl : lv[n]? = some (i, .int v)) (kk : ojJ X V Q x σ (pc + 2) lv (.int v :: rest)) : ojJ X V Q x σ pc lv rest :=
  fun o ho ls H locs g => lv_iload hc.1 hc.2.1 hd (oj_get g.1 hl) (kk o ho ls H locs g)
theorem oj_aload_n (hc : ojC X V own cc nL L) {k : Fin 4} {i : Nat} {v : Nat} (hd : decode cc pc = .ok (.aload_n k, 1)) (hi : (k : Nat) = i) (n : Nat) (hl : lv[n]? = some (i, .ref v)) (kk : ojJ X V Q x σ (pc + 1) lv (.ref v :: rest)) : ojJ X V Q x σ pc lv rest :=
  fun o ho ls H locs g => lv_aload_n hc.1 hc.2.1 hd hi (oj_get g.1 hl) (kk o ho ls H locs g)
theorem oj_aload (hc : ojC X V own cc nL L) {i : Nat} {v : Nat} (hd : decode cc pc = .ok (.aload i, 2)) (n : Nat) (hl : lv[n]? = some (i, .ref v)) (kk : ojJ X V Q x σ (pc + 2) lv (.ref v :: rest)) : ojJ X V Q x σ pc lv rest :=
  fun o ho ls H locs g => lv_aload hc.1 hc.2.1 hd (oj_get g.1 hl) (kk o ho ls H locs g)
theorem oj_lload (hc : ojC X V own cc nL L) {i : Nat} {v : Int64} (hd : decode cc pc = .ok (.lload i, 2)) (n : Nat) (hl : lv[n]? = some (i, .long v)) (kk : ojJ X V Q x σ (pc + 2) lv (.long v :: rest)) : ojJ X V Q x σ pc lv rest :=
  fun o ho ls H locs g => lv_lload hc.1 hc.2.1 hd (oj_get g.1 hl) (kk o ho ls H locs g)
theorem oj_iconst (hc : ojC X V own cc nL L) {n : Int} (v : Int32) (hd : decode cc pc = .ok (.iconst n, 1)) (hv : Int32.ofInt n = v) (kk : ojJ X V Q x σ (pc + 1) lv (.int v :: rest)) : ojJ X V Q x σ pc lv rest :=
  fun o ho ls H locs g => lv_iconst hc.1 hc.2.1 hd hv (kk o ho ls H locs g)
theorem oj_bipush (hc : ojC X V own cc nL L) {n : Int} (v : Int32) (hd : decode cc pc = .ok (.bipush n, 2)) (hv : (Int8.ofInt n).toInt32 = v) (kk : ojJ X V Q x σ (pc + 2) lv (.int v :: rest)) : ojJ X V Q x σ pc lv rest :=
  fun o ho ls H locs g => lv_bipush hc.1 hc.2.1 hd hv (kk o ho ls H locs g)
theorem oj_sipush (hc : ojC X V own cc nL L) {n : Int} (v : Int32) (hd : decode cc pc = .ok (.sipush n, 3)) (hv : (Int16.ofInt n).toInt32 = v) (kk : ojJ X V Q x σ (pc + 3) lv (.int v :: rest)) : ojJ X V Q x σ pc lv rest :=
  fun o ho ls H locs g => lv_sipush hc.1 hc.2.1 hd hv (kk o ho ls H locs g)
theorem oj_ldc (hc : ojC X V own cc nL L) {ix : Nat} {v : Int32} (hk : Cond.constant own ix v ∈ ojT) (hd : decode cc pc = .ok (.ldc ix, 2)) (kk : ojJ X V Q x σ (pc + 2) lv (.int v :: rest)) : ojJ X V Q x σ pc lv rest :=
  fun o ho ls H locs g => lv_ldc hc.1 hc.2.1 hc.2.2.2.1 (hc.2.2.2.2.1 _ hk) hd (kk o ho ls H locs g)
theorem oj_ldc2 (hc : ojC X V own cc nL L) {ix : Nat} {v : Int64} (hk : Cond.constantLong own ix v ∈ ojT) (hd : decode cc pc = .ok (.ldc2_w ix, 3)) (kk : ojJ X V Q x σ (pc + 3) lv (.long v :: rest)) : ojJ X V Q x σ pc lv rest :=
  fun o ho ls H locs g => lv_ldc2 hc.1 hc.2.1 hc.2.2.2.1 (hc.2.2.2.2.1 _ hk) hd (kk o ho ls H locs g)
theorem oj_dup (hc : ojC X V own cc nL L) {v : Value} (hd : decode cc pc = .ok (.dup, 1)) (hv : v.category = 1) (kk : ojJ X V Q x σ (pc + 1) lv (v :: v :: rest)) : ojJ X V Q x σ pc lv (v :: rest) :=
  fun o ho ls H locs g => lv_dup hc.1 hc.2.1 hd hv (kk o ho ls H locs g)
theorem oj_dup2 (hc : ojC X V own cc nL L) {v u : Value} (hd : decode cc pc = .ok (.dup2, 1)) (hv : v.category = 1) (hu : u.category = 1) (kk : ojJ X V Q x σ (pc + 1) lv (v :: u :: v :: u :: rest)) : ojJ X V Q x σ pc lv (v :: u :: rest) :=
  fun o ho ls H locs g => lv_dup2_11 hc.1 hc.2.1 hd hv hu (kk o ho ls H locs g)
theorem oj_iadd (hc : ojC X V own cc nL L) {a b : Int32} (hd : decode cc pc = .ok (.iadd, 1)) (kk : ojJ X V Q x σ (pc + 1) lv (.int (a + b) :: rest)) : ojJ X V Q x σ pc lv (.int b :: .int a :: rest) :=
  fun o ho ls H locs g => lv_iadd hc.1 hc.2.1 hd (kk o ho ls H locs g)
theorem oj_isub (hc : ojC X V own cc nL L) {a b : Int32} (hd : decode cc pc = .ok (.isub, 1)) (kk : ojJ X V Q x σ (pc + 1) lv (.int (a - b) :: rest)) : ojJ X V Q x σ pc lv (.int b :: .int a :: rest) :=
  fun o ho ls H locs g => lv_isub hc.1 hc.2.1 hd (kk o ho ls H locs g)
theorem oj_imul (hc : ojC X V own cc nL L) {a b : Int32} (hd : decode cc pc = .ok (.imul, 1)) (kk : ojJ X V Q x σ (pc + 1) lv (.int (a * b) :: rest)) : ojJ X V Q x σ pc lv (.int b :: .int a :: rest) :=
  fun o ho ls H locs g => lv_imul hc.1 hc.2.1 hd (kk o ho ls H locs g)
theorem oj_iand (hc : ojC X V own cc nL L) {a b : Int32} (hd : decode cc pc = .ok (.iand, 1)) (kk : ojJ X V Q x σ (pc + 1) lv (.int (a &&& b) :: rest)) : ojJ X V Q x σ pc lv (.int b :: .int a :: rest) :=
  fun o ho ls H locs g => lv_iand hc.1 hc.2.1 hd (kk o ho ls H locs g)
theorem oj_idiv (hc : ojC X V own cc nL L) {a b : Int32} (hd : decode cc pc = .ok (.idiv, 1)) (hne : ¬ b = 0) (kk : ojJ X V Q x σ (pc + 1) lv (.int (a / b) :: rest)) : ojJ X V Q x σ pc lv (.int b :: .int a :: rest) :=
  fun o ho ls H locs g => lv_idiv hc.1 hc.2.1 hd hne (kk o ho ls H locs g)
theorem oj_irem (hc : ojC X V own cc nL L) {a b : Int32} (hd : decode cc pc = .ok (.irem, 1)) (hne : ¬ b = 0) (kk : ojJ X V Q x σ (pc + 1) lv (.int (ojRem a b) :: rest)) : ojJ X V Q x σ pc lv (.int b :: .int a :: rest) :=
  fun o ho ls H locs g => lv_irem hc.1 hc.2.1 hd hne (kk o ho ls H locs g)
theorem oj_nz {b : Int32} (kk : ¬ b = 0 → ojJ X V Q x σ pc lv rest) : ojJ X V Q (ojNz b x) σ pc lv rest := fun o ho => by
  unfold ojNz at ho
  by_cases h : b = 0
  · rw [if_pos h] at ho; cases ho
  · rw [if_neg h] at ho; exact kk h o ho
theorem oj_nzL {b : Int64} (kk : ¬ b = 0 → ojJ X V Q x σ pc lv rest) : ojJ X V Q (ojNzL b x) σ pc lv rest := fun o ho => by
  unfold ojNzL at ho
  by_cases h : b = 0
  · rw [if_pos h] at ho; cases ho
  · rw [if_neg h] at ho; exact kk h o ho
theorem oj_chk {i : Int32} {n : Nat} (kk : vp_in i n → ojJ X V Q x σ pc lv rest) : ojJ X V Q (ojChk i n x) σ pc lv rest := fun o ho => by
  unfold ojChk at ho
  by_cases h : i < 0 ∨ n ≤ i.toNatClampNeg
  · rw [if_pos h] at ho; cases ho
  · rw [if_neg h] at ho; exact kk h o ho
theorem oj_bl {v : Int32} (kk : (v = 0 ∨ v = 1) → ojJ X V Q x σ pc lv rest) : ojJ X V Q (ojBl v x) σ pc lv rest := fun o ho => by
  unfold ojBl at ho
  by_cases h : v = 0 ∨ v = 1
  · rw [if_pos h] at ho; exact kk h o ho
  · rw [if_neg h] at ho; cases ho
theorem oj_nm {v : Int32} {K : Int32 → Option α} (kk : ∀ y : Int32, ojJ X V Q (K y) σ pc lv (.int y :: rest)) : ojJ X V Q (ojLet v K) σ pc lv (.int v :: rest) := kk v
theorem oj_nmL {v : Int64} {K : Int64 → Option α} (kk : ∀ y : Int64, ojJ X V Q (K y) σ pc lv (.long y :: rest)) : ojJ X V Q (ojLet v K) σ pc lv (.long v :: rest) := kk v
theorem oj_i2l (hc : ojC X V own cc nL L) {a : Int32} (hd : decode cc pc = .ok (.i2l, 1)) (kk : ojJ X V Q x σ (pc + 1) lv (.long a.toInt64 :: rest)) : ojJ X V Q x σ pc lv (.int a :: rest) :=
  fun o ho ls H locs g => lv_i2l hc.1 hc.2.1 hd rfl (kk o ho ls H locs g)
theorem oj_l2i (hc : ojC X V own cc nL L) {a : Int64} (hd : decode cc pc = .ok (.l2i, 1)) (kk : ojJ X V Q x σ (pc + 1) lv (.int a.toInt32 :: rest)) : ojJ X V Q x σ pc lv (.long a :: rest) :=
  fun o ho ls H locs g => lv_l2i hc.1 hc.2.1 hd rfl (kk o ho ls H locs g)
theorem oj_lmul (hc : ojC X V own cc nL L) {a b : Int64} (hd : decode cc pc = .ok (.lmul, 1)) (kk : ojJ X V Q x σ (pc + 1) lv (.long (a * b) :: rest)) : ojJ X V Q x σ pc lv (.long b :: .long a :: rest) :=
  fun o ho ls H locs g => lv_lmul hc.1 hc.2.1 hd (kk o ho ls H locs g)
theorem oj_ldiv (hc : ojC X V own cc nL L) {a b : Int64} (hd : decode cc pc = .ok (.ldiv, 1)) (hne : ¬ b = 0) (kk : ojJ X V Q x σ (pc + 1) lv (.long (a / b) :: rest)) : ojJ X V Q x σ pc lv (.long b :: .long a :: rest) :=
  fun o ho ls H locs g => lv_ldiv hc.1 hc.2.1 hd hne (kk o ho ls H locs g)
theorem oj_lrem (hc : ojC X V own cc nL L) {a b : Int64} (hd : decode cc pc = .ok (.lrem, 1)) (hne : ¬ b = 0) (kk : ojJ X V Q x σ (pc + 1) lv (.long (ojRemL a b) :: rest)) : ojJ X V Q x σ pc lv (.long b :: .long a :: rest) :=
  fun o ho ls H locs g => lv_lrem hc.1 hc.2.1 hd hne (kk o ho ls H locs g)
theorem oj_st_ok {i n : Nat} {v : Value} {ls : Array Slot} {lv lv' : List (Nat × Value)} (hs : ojSt lv i v = lv') (h : lv_has ls n ((i, v) :: lv.filter (fun q => !(q.1 == i) && !(q.1 + 1 == i && q.2.category == 2)))) : lv_has ls n lv' := by
  rw [← hs]
  exact oj_has h (fun q hq => ojIns_mem hq)
theorem oj_istore (hc : ojC X V own cc nL L) {i : Nat} {v : Int32} (lv' : List (Nat × Value)) (hs : ojSt lv i (.int v) = lv') (hn : i < nL) (hd : decode cc pc = .ok (.istore i, 2)) (kk : ojJ X V Q x σ (pc + 2) lv' rest) : ojJ X V Q x σ pc lv (.int v :: rest) :=
  fun o ho ls H locs g => lv_istore hc.1 hc.2.1 hd g.1 (by rw [hc.2.2.2.2.2.2.1]; exact hn) rfl (fun ls' hl' => kk o ho ls' H locs ⟨oj_st_ok hs hl', g.2⟩)
theorem oj_istore_n (hc : ojC X V own cc nL L) {k : Fin 4} {i : Nat} {v : Int32} (lv' : List (Nat × Value)) (hs : ojSt lv i (.int v) = lv') (hn : i < nL) (hd : decode cc pc = .ok (.istore_n k, 1)) (hi : (k : Nat) = i) (kk : ojJ X V Q x σ (pc + 1) lv' rest) : ojJ X V Q x σ pc lv (.int v :: rest) :=
  fun o ho ls H locs g => lv_istore_n hc.1 hc.2.1 hd hi g.1 (by rw [hc.2.2.2.2.2.2.1]; exact hn) rfl (fun ls' hl' => kk o ho ls' H locs ⟨oj_st_ok hs hl', g.2⟩)
theorem oj_astore (hc : ojC X V own cc nL L) {i : Nat} {v : Nat} (lv' : List (Nat × Value)) (hs : ojSt lv i (.ref v) = lv') (hn : i < nL) (hd : decode cc pc = .ok (.astore i, 2)) (kk : ojJ X V Q x σ (pc + 2) lv' rest) : ojJ X V Q x σ pc lv (.ref v :: rest) :=
  fun o ho ls H locs g => lv_astore hc.1 hc.2.1 hd g.1 (by rw [hc.2.2.2.2.2.2.1]; exact hn) rfl (fun ls' hl' => kk o ho ls' H locs ⟨oj_st_ok hs hl', g.2⟩)
theorem oj_astore_n (hc : ojC X V own cc nL L) {k : Fin 4} {i : Nat} {v : Nat} (lv' : List (Nat × Value)) (hs : ojSt lv i (.ref v) = lv') (hn : i < nL) (hd : decode cc pc = .ok (.astore_n k, 1)) (hi : (k : Nat) = i) (kk : ojJ X V Q x σ (pc + 1) lv' rest) : ojJ X V Q x σ pc lv (.ref v :: rest) :=
  fun o ho ls H locs g => lv_astore_n hc.1 hc.2.1 hd hi g.1 (by rw [hc.2.2.2.2.2.2.1]; exact hn) rfl (fun ls' hl' => kk o ho ls' H locs ⟨oj_st_ok hs hl', g.2⟩)
theorem oj_lstore (hc : ojC X V own cc nL L) {i : Nat} {v : Int64} (lv' : List (Nat × Value)) (hs : ojStL lv i (.long v) = lv') (hn : i + 1 < nL) (hd : decode cc pc = .ok (.lstore i, 2)) (kk : ojJ X V Q x σ (pc + 2) lv' rest) : ojJ X V Q x σ pc lv (.long v :: rest) :=
  fun o ho ls H locs g => lv_lstore hc.1 hc.2.1 hd g.1 (by rw [hc.2.2.2.2.2.2.1]; exact hn) rfl (fun ls' hl' => kk o ho ls' H locs ⟨by rw [← hs]; exact oj_has hl' (fun q hq => ojIns_mem hq), g.2⟩)
theorem oj_iinc (hc : ojC X V own cc nL L) {i : Nat} {n : Int} {v : Int32} (d : Int32) (lv' : Int32 → List (Nat × Value)) {K : Int32 → Option α} (k : Nat) (hk : lv[k]? = some (i, .int v)) (hv : Int32.ofInt n = d) (hs : ∀ u : Int32, ojSt lv i (.int u) = lv' u) (hn : i < nL) (hd : decode cc pc = .ok (.iinc i n, 3)) (kk : ∀ u : Int32, ojJ X V Q (K u) σ (pc + 3) (lv' u) rest) : ojJ X V Q (ojLet (v + d) K) σ pc lv rest :=
  fun o ho ls H locs g => lv_iinc (v := v + d) hc.1 hc.2.1 hd g.1 hk (by rw [hv]) (by rw [hc.2.2.2.2.2.2.1]; exact hn) rfl (fun ls' hl' => kk (v + d) o ho ls' H locs ⟨oj_st_ok (hs _) hl', g.2⟩)
theorem oj_goto (hc : ojC X V own cc nL L) {off : Int} (tgt : Nat) (hd : decode cc pc = .ok (.goto off, 3)) (ht : (pc : Int) + off = (tgt : Int)) (kk : ojJ X V Q x σ tgt lv rest) : ojJ X V Q x σ pc lv rest :=
  fun o ho ls H locs g => lv_goto hc.1 hc.2.1 hd ht (kk o ho ls H locs g)
theorem oj_mmin (hc : ojC X V own cc nL L) {ix : Nat} {a b : Int32} (hL : 1 ≤ L) (hlink : Cond.methodLink own ix Lib.Math.min.name ∈ ojT) (hstat : Cond.static Lib.Math.min.name ∈ ojT) (hini : Cond.initialized "java/lang/Math" ∈ ojT) (hcode : Cond.code Lib.Math.min.name Lib.Math.min.code 2 (some .int) ∈ ojT) (hrest : (rest.map fun v => v.category).sum + 13 ≤ 60) (hd : decode cc pc = .ok (.invokestatic ix, 3)) (kk : ojJ X V Q x σ (pc + 3) lv (.int (ojMin a b) :: rest)) : ojJ X V Q x σ pc lv (.int b :: .int a :: rest) :=
  fun o ho ls H locs g => va_mmin hc.1 hc.2.1 (by rw [hc.2.2.1, g.1.1, hc.2.2.2.2.2.2.1]) hc.2.2.2.1 (hc.2.2.2.2.1 _ hlink) (hc.2.2.2.2.1 _ hstat) (hc.2.2.2.2.1 _ hini) (hc.2.2.2.2.1 _ hcode) (by rw [hc.2.2.2.2.2.2.2.1]; exact hL) (by rw [hc.2.2.2.2.2.2.2.1]; exact Nat.le_trans hrest (by show 60 ≤ 60 * L; omega)) (Nat.zero_le _) (Nat.zero_le _) hd (kk o ho ls H locs g)
theorem oj_mmax (hc : ojC X V own cc nL L) {ix : Nat} {a b : Int32} (hL : 1 ≤ L) (hlink : Cond.methodLink own ix Lib.Math.max.name ∈ ojT) (hstat : Cond.static Lib.Math.max.name ∈ ojT) (hini : Cond.initialized "java/lang/Math" ∈ ojT) (hcode : Cond.code Lib.Math.max.name Lib.Math.max.code 2 (some .int) ∈ ojT) (hrest : (rest.map fun v => v.category).sum + 13 ≤ 60) (hd : decode cc pc = .ok (.invokestatic ix, 3)) (kk : ojJ X V Q x σ (pc + 3) lv (.int (ojMax a b) :: rest)) : ojJ X V Q x σ pc lv (.int b :: .int a :: rest) :=
  fun o ho ls H locs g => va_mmax hc.1 hc.2.1 (by rw [hc.2.2.1, g.1.1, hc.2.2.2.2.2.2.1]) hc.2.2.2.1 (hc.2.2.2.2.1 _ hlink) (hc.2.2.2.2.1 _ hstat) (hc.2.2.2.2.1 _ hini) (hc.2.2.2.2.1 _ hcode) (by rw [hc.2.2.2.2.2.2.2.1]; exact hL) (by rw [hc.2.2.2.2.2.2.2.1]; exact Nat.le_trans hrest (by show 60 ≤ 60 * L; omega)) (Nat.zero_le _) (Nat.zero_le _) hd (kk o ho ls H locs g)
theorem oj_mabs (hc : ojC X V own cc nL L) {ix : Nat} {a : Int32} (hL : 1 ≤ L) (hlink : Cond.methodLink own ix Lib.Math.abs.name ∈ ojT) (hstat : Cond.static Lib.Math.abs.name ∈ ojT) (hini : Cond.initialized "java/lang/Math" ∈ ojT) (hcode : Cond.code Lib.Math.abs.name Lib.Math.abs.code 1 (some .int) ∈ ojT) (hrest : (rest.map fun v => v.category).sum + 13 ≤ 60) (hd : decode cc pc = .ok (.invokestatic ix, 3)) (kk : ojJ X V Q x σ (pc + 3) lv (.int (ojAbs a) :: rest)) : ojJ X V Q x σ pc lv (.int a :: rest) :=
  fun o ho ls H locs g => va_mabs hc.1 hc.2.1 (by rw [hc.2.2.1, g.1.1, hc.2.2.2.2.2.2.1]) hc.2.2.2.1 (hc.2.2.2.2.1 _ hlink) (hc.2.2.2.2.1 _ hstat) (hc.2.2.2.2.1 _ hini) (hc.2.2.2.2.1 _ hcode) (by rw [hc.2.2.2.2.2.2.2.1]; exact hL) (by rw [hc.2.2.2.2.2.2.2.1]; exact Nat.le_trans hrest (by show 60 ≤ 60 * L; omega)) (Nat.zero_le _) (Nat.zero_le _) hd (kk o ho ls H locs g)
end ojR
section ojBr
variable {α : Type} {X : ojX} {V : ojV} {Q : α → State → Prop} {x x2 : Option α} {σ : ojS} {pc : Nat} {lv : List (Nat × Value)} {rest : List Value} {own : String} {cc : ByteArray} {nL L : Nat}
theorem oj_icmp_eq (hc : ojC X V own cc nL L) {a b : Int32} {off : Int} (tgt : Nat) (hd : decode cc pc = .ok (.if_icmp .eq off, 3)) (ht : (pc : Int) + off = (tgt : Int)) (kt : a = b → ojJ X V Q x σ tgt lv rest) (kf : ojJ X V Q x2 σ (pc + 3) lv rest) : ojJ X V Q (if a = b then x else x2) σ pc lv (.int b :: .int a :: rest) :=
  fun o ho ls H locs g => lv_icmp_eq hc.1 hc.2.1 hd ht (fun h => kt h o (by rwa [if_pos h] at ho) ls H locs g) (fun h => kf o (by rwa [if_neg h] at ho) ls H locs g)
theorem oj_if_eq (hc : ojC X V own cc nL L) {a : Int32} {off : Int} (tgt : Nat) (hd : decode cc pc = .ok (.ifCond .eq off, 3)) (ht : (pc : Int) + off = (tgt : Int)) (kt : a = 0 → ojJ X V Q x σ tgt lv rest) (kf : ojJ X V Q x2 σ (pc + 3) lv rest) : ojJ X V Q (if a = 0 then x else x2) σ pc lv (.int a :: rest) :=
  fun o ho ls H locs g => lv_if_eq hc.1 hc.2.1 hd ht (fun h => kt h o (by rwa [if_pos h] at ho) ls H locs g) (fun h => kf o (by rwa [if_neg h] at ho) ls H locs g)
theorem oj_icmp_ne (hc : ojC X V own cc nL L) {a b : Int32} {off : Int} (tgt : Nat) (hd : decode cc pc = .ok (.if_icmp .ne off, 3)) (ht : (pc : Int) + off = (tgt : Int)) (kt : ojJ X V Q x2 σ tgt lv rest) (kf : a = b → ojJ X V Q x σ (pc + 3) lv rest) : ojJ X V Q (if a = b then x else x2) σ pc lv (.int b :: .int a :: rest) :=
  fun o ho ls H locs g => lv_icmp_ne hc.1 hc.2.1 hd ht (fun h => kt o (by rwa [if_neg h] at ho) ls H locs g) (fun h => kf h o (by rwa [if_pos h] at ho) ls H locs g)
theorem oj_if_ne (hc : ojC X V own cc nL L) {a : Int32} {off : Int} (tgt : Nat) (hd : decode cc pc = .ok (.ifCond .ne off, 3)) (ht : (pc : Int) + off = (tgt : Int)) (kt : ojJ X V Q x2 σ tgt lv rest) (kf : a = 0 → ojJ X V Q x σ (pc + 3) lv rest) : ojJ X V Q (if a = 0 then x else x2) σ pc lv (.int a :: rest) :=
  fun o ho ls H locs g => lv_if_ne hc.1 hc.2.1 hd ht (fun h => kt o (by rwa [if_neg h] at ho) ls H locs g) (fun h => kf h o (by rwa [if_pos h] at ho) ls H locs g)
theorem oj_icmp_lt (hc : ojC X V own cc nL L) {a b : Int32} {off : Int} (tgt : Nat) (hd : decode cc pc = .ok (.if_icmp .lt off, 3)) (ht : (pc : Int) + off = (tgt : Int)) (kt : a < b → ojJ X V Q x σ tgt lv rest) (kf : ojJ X V Q x2 σ (pc + 3) lv rest) : ojJ X V Q (if a < b then x else x2) σ pc lv (.int b :: .int a :: rest) :=
  fun o ho ls H locs g => lv_icmp_lt hc.1 hc.2.1 hd ht (fun h => kt h o (by rwa [if_pos h] at ho) ls H locs g) (fun h => kf o (by rwa [if_neg h] at ho) ls H locs g)
theorem oj_if_lt (hc : ojC X V own cc nL L) {a : Int32} {off : Int} (tgt : Nat) (hd : decode cc pc = .ok (.ifCond .lt off, 3)) (ht : (pc : Int) + off = (tgt : Int)) (kt : a < 0 → ojJ X V Q x σ tgt lv rest) (kf : ojJ X V Q x2 σ (pc + 3) lv rest) : ojJ X V Q (if a < 0 then x else x2) σ pc lv (.int a :: rest) :=
  fun o ho ls H locs g => lv_if_lt hc.1 hc.2.1 hd ht (fun h => kt h o (by rwa [if_pos h] at ho) ls H locs g) (fun h => kf o (by rwa [if_neg h] at ho) ls H locs g)
theorem oj_icmp_ge (hc : ojC X V own cc nL L) {a b : Int32} {off : Int} (tgt : Nat) (hd : decode cc pc = .ok (.if_icmp .ge off, 3)) (ht : (pc : Int) + off = (tgt : Int)) (kt : b ≤ a → ojJ X V Q x σ tgt lv rest) (kf : ojJ X V Q x2 σ (pc + 3) lv rest) : ojJ X V Q (if b ≤ a then x else x2) σ pc lv (.int b :: .int a :: rest) :=
  fun o ho ls H locs g => lv_icmp_ge hc.1 hc.2.1 hd ht (fun h => kt h o (by rwa [if_pos h] at ho) ls H locs g) (fun h => kf o (by rwa [if_neg h] at ho) ls H locs g)
theorem oj_if_ge (hc : ojC X V own cc nL L) {a : Int32} {off : Int} (tgt : Nat) (hd : decode cc pc = .ok (.ifCond .ge off, 3)) (ht : (pc : Int) + off = (tgt : Int)) (kt : 0 ≤ a → ojJ X V Q x σ tgt lv rest) (kf : ojJ X V Q x2 σ (pc + 3) lv rest) : ojJ X V Q (if 0 ≤ a then x else x2) σ pc lv (.int a :: rest) :=
  fun o ho ls H locs g => lv_if_ge hc.1 hc.2.1 hd ht (fun h => kt h o (by rwa [if_pos h] at ho) ls H locs g) (fun h => kf o (by rwa [if_neg h] at ho) ls H locs g)
theorem oj_icmp_gt (hc : ojC X V own cc nL L) {a b : Int32} {off : Int} (tgt : Nat) (hd : decode cc pc = .ok (.if_icmp .gt off, 3)) (ht : (pc : Int) + off = (tgt : Int)) (kt : b < a → ojJ X V Q x σ tgt lv rest) (kf : ojJ X V Q x2 σ (pc + 3) lv rest) : ojJ X V Q (if b < a then x else x2) σ pc lv (.int b :: .int a :: rest) :=
  fun o ho ls H locs g => lv_icmp_gt hc.1 hc.2.1 hd ht (fun h => kt h o (by rwa [if_pos h] at ho) ls H locs g) (fun h => kf o (by rwa [if_neg h] at ho) ls H locs g)
theorem oj_if_gt (hc : ojC X V own cc nL L) {a : Int32} {off : Int} (tgt : Nat) (hd : decode cc pc = .ok (.ifCond .gt off, 3)) (ht : (pc : Int) + off = (tgt : Int)) (kt : 0 < a → ojJ X V Q x σ tgt lv rest) (kf : ojJ X V Q x2 σ (pc + 3) lv rest) : ojJ X V Q (if 0 < a then x else x2) σ pc lv (.int a :: rest) :=
  fun o ho ls H locs g => lv_if_gt hc.1 hc.2.1 hd ht (fun h => kt h o (by rwa [if_pos h] at ho) ls H locs g) (fun h => kf o (by rwa [if_neg h] at ho) ls H locs g)
theorem oj_icmp_le (hc : ojC X V own cc nL L) {a b : Int32} {off : Int} (tgt : Nat) (hd : decode cc pc = .ok (.if_icmp .le off, 3)) (ht : (pc : Int) + off = (tgt : Int)) (kt : a ≤ b → ojJ X V Q x σ tgt lv rest) (kf : ojJ X V Q x2 σ (pc + 3) lv rest) : ojJ X V Q (if a ≤ b then x else x2) σ pc lv (.int b :: .int a :: rest) :=
  fun o ho ls H locs g => lv_icmp_le hc.1 hc.2.1 hd ht (fun h => kt h o (by rwa [if_pos h] at ho) ls H locs g) (fun h => kf o (by rwa [if_neg h] at ho) ls H locs g)
theorem oj_if_le (hc : ojC X V own cc nL L) {a : Int32} {off : Int} (tgt : Nat) (hd : decode cc pc = .ok (.ifCond .le off, 3)) (ht : (pc : Int) + off = (tgt : Int)) (kt : a ≤ 0 → ojJ X V Q x σ tgt lv rest) (kf : ojJ X V Q x2 σ (pc + 3) lv rest) : ojJ X V Q (if a ≤ 0 then x else x2) σ pc lv (.int a :: rest) :=
  fun o ho ls H locs g => lv_if_le hc.1 hc.2.1 hd ht (fun h => kt h o (by rwa [if_pos h] at ho) ls H locs g) (fun h => kf o (by rwa [if_neg h] at ho) ls H locs g)
end ojBr

section ojN
variable {α : Type} {X : ojX} {V : ojV} {Q : α → State → Prop} {x x2 : Option α} {σ : ojS} {pc : Nat} {lv : List (Nat × Value)} {rest : List Value} {own : String} {cc : ByteArray} {nL L : Nat}
theorem oj_sub (ks : List Nat) {lv' : List (Nat × Value)} (h : lv_pick lv ks = lv') (kk : ojJ X V Q x σ pc lv' rest) : ojJ X V Q x σ pc lv rest :=
  fun o ho ls H locs g => kk o ho ls H locs ⟨lv_sub g.1 ks h, g.2⟩
theorem oj_nbl {v : Int32} (h : v = 0 ∨ v = 1) : narrow .boolean (.int v) = .int v := by
  rcases h with rfl | rfl <;> rfl
theorem oj_sw {v : Int32} (lo hi : Int) (n : Nat) (e : lo + n = hi + 1) (h : ∀ k, k < n → ¬ v = Int32.ofInt (lo + (k : Nat))) : v.toInt < lo ∨ hi < v.toInt := by
  by_cases h1 : v.toInt < lo
  · exact Or.inl h1
  · by_cases h2 : hi < v.toInt
    · exact Or.inr h2
    · refine absurd ?_ (h (v.toInt - lo).toNat (by omega))
      rw [show lo + (((v.toInt - lo).toNat : Nat) : Int) = v.toInt by omega]
      exact (Int32.ofInt_toInt v).symm
theorem oj_copyi (hc : ojC X V own cc nL L) {ix : Nat} (hL : 1 ≤ L) (hlink : Cond.methodLink own ix arraycopyName ∈ ojT) (hnat : Cond.native arraycopyName ∈ ojT) (hstat : Cond.static arraycopyName ∈ ojT) (hini : Cond.initialized "java/lang/System" ∈ ojT) {ks kd a0 a n : Nat} {cA : ClassId} {f g0 : Nat → Int32} {K : ojS → Option α} (he0 : (V.2.2.2 σ)[ks]? = some (a0, .inl (cA, n, .inl f))) (he1 : (V.2.2.2 σ)[kd]? = some (a, .inl (cA, n, .inl g0))) (hset : ∀ f', (V.2.2.2 σ).set kd (a, .inl (cA, n, .inl f')) = V.2.2.2 (ojW σ kd f')) (ht : V.2.2.1[0]? = some (cA, .int)) (ln : Int32) (h3 : ¬ ln < 0) (h4 : (0 : Int32).toNatClampNeg + ln.toNatClampNeg ≤ n) (hrest : (rest.map fun v => v.category).sum + (nativeFrameWords "java/lang/System" "arraycopy" 5 + 11) ≤ 60) (hd : decode cc pc = .ok (.invokestatic ix, 3)) (kk : ∀ σ1 : ojS, ojJ X V Q (K σ1) σ1 (pc + 3) lv rest) : ojJ X V Q (ojLet (ojW σ kd (va_cpy f g0 (0 : Int32).toNatClampNeg (0 : Int32).toNatClampNeg ln.toNatClampNeg)) K) σ pc lv (.int ln :: .int 0 :: .ref a :: .int 0 :: .ref a0 :: rest) :=
  fun o ho ls H locs g => va_copyi hc.1 hc.2.1 (by rw [hc.2.2.1, g.1.1, hc.2.2.2.2.2.2.1]) hc.2.2.2.1 (hc.2.2.2.2.1 _ hlink) (hc.2.2.2.2.1 _ hnat) (hc.2.2.2.2.1 _ hstat) (hc.2.2.2.2.1 _ hini) hc.2.2.2.2.2.1 g.2.1 g.2.2.1 g.2.2.2 ks kd 0 0 he0 he1 ht ht rfl (by decide) (by decide) h3 h4 h4 (fun _ _ => rfl) (by rw [hc.2.2.2.2.2.2.2.1]; exact hL) (by rw [hc.2.2.2.2.2.2.2.1]; exact Nat.le_trans hrest (by show 60 ≤ 60 * L; omega)) hd (fun H1 locs1 hP hD hS => by
    rw [hset] at hP hD
    exact kk _ o ho ls H1 locs1 ⟨g.1, hP, hD, hS⟩)
end ojN
abbrev ojRi (X : ojX) (V : ojV) (Q : Int32 × ojS → State → Prop) (cc : ByteArray) (ty : FieldType) : Prop := ∀ (v : Int32) (σ1 : ojS) (pc : Nat) (lv : List (Nat × Value)), narrow ty (.int v) = .int v → decode cc pc = .ok (.ireturn, 1) → ojJ X V Q (some (v, σ1)) σ1 pc lv [.int v]
abbrev ojRr (X : ojX) (V : ojV) (Q : Int32 → State → Prop) (cc : ByteArray) (ty : FieldType) (σ : ojS) : Prop := ∀ (v : Int32) (pc : Nat) (lv : List (Nat × Value)), narrow ty (.int v) = .int v → decode cc pc = .ok (.ireturn, 1) → ojJ X V Q (some v) σ pc lv [.int v]
abbrev ojRv (X : ojX) (V : ojV) (Q : ojS → State → Prop) (cc : ByteArray) : Prop := ∀ (σ1 : ojS) (pc : Nat) (lv : List (Nat × Value)), decode cc pc = .ok (.return_, 1) → ojJ X V Q (some σ1) σ1 pc lv []

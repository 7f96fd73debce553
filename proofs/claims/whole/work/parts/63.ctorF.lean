theorem wd_cl1_9 : Cond.classLink RX1 9 RX5 ∈ ojT := ojT_in (by decide +kernel) rfl
theorem wd_cl8_9 : Cond.classLink RX8 9 RX2 ∈ ojT := ojT_in (by decide +kernel) rfl
theorem wd_cl8_16 : Cond.classLink RX8 16 RX0 ∈ ojT := ojT_in (by decide +kernel) rfl
theorem wd_cl8_23 : Cond.classLink RX8 23 RX6 ∈ ojT := ojT_in (by decide +kernel) rfl
theorem wd_cl8_30 : Cond.classLink RX8 30 RX1 ∈ ojT := ojT_in (by decide +kernel) rfl
theorem wd_cl8_37 : Cond.classLink RX8 37 RX7 ∈ ojT := ojT_in (by decide +kernel) rfl
theorem wd_cl8_48 : Cond.classLink RX8 48 RX3 ∈ ojT := ojT_in (by decide +kernel) rfl
theorem wd_cl8_55 : Cond.classLink RX8 55 RX4 ∈ ojT := ojT_in (by decide +kernel) rfl
theorem wd_lk18 : Cond.methodLink RX8 18 yX0_init ∈ ojT := ojT_in (by decide +kernel) rfl
theorem wd_lk32 : Cond.methodLink RX8 32 yX1_init ∈ ojT := ojT_in (by decide +kernel) rfl
theorem wd_df0 : ∀ j, j < 4 → defaultValue (tyX0 j) = vp_V [.null, .null, .null, .int 0] j := fun j hj => by rcases (show j = 0 ∨ j = 1 ∨ j = 2 ∨ j = 3 by omega) with rfl | rfl | rfl | rfl <;> rfl
theorem wd_df1 : ∀ j, j < 2 → defaultValue (tyX1 j) = vp_V [.null, .int 0] j := fun j hj => by rcases (show j = 0 ∨ j = 1 by omega) with rfl | rfl <;> rfl
theorem wd_df2 : ∀ j, j < 1 → defaultValue (tyX2 j) = vp_V [.null] j := fun j hj => by rcases (show j = 0 by omega) with rfl <;> rfl
theorem wd_df3 : ∀ j, j < 5 → defaultValue (tyX3 j) = vp_V [.int 0, .int 0, .int 0, .int 0, .int 0] j := fun j hj => by rcases (show j = 0 ∨ j = 1 ∨ j = 2 ∨ j = 3 ∨ j = 4 by omega) with rfl | rfl | rfl | rfl | rfl <;> rfl
theorem wd_df4 : ∀ j, j < 3 → defaultValue (tyX4 j) = vp_V [.int 0, .int 0, .null] j := fun j hj => by rcases (show j = 0 ∨ j = 1 ∨ j = 2 by omega) with rfl | rfl | rfl <;> rfl
theorem wd_df5 : ∀ j, j < 6 → defaultValue (tyX5 j) = vp_V [.int 0, .int 0, .int 0, .int 0, .int 0, .int 0] j := fun j hj => by rcases (show j = 0 ∨ j = 1 ∨ j = 2 ∨ j = 3 ∨ j = 4 ∨ j = 5 by omega) with rfl | rfl | rfl | rfl | rfl | rfl <;> rfl
theorem wd_df6 : ∀ j, j < 1 → defaultValue (tyX6 j) = vp_V [.null] j := fun j hj => by rcases (show j = 0 by omega) with rfl <;> rfl
theorem wd_df7 : ∀ j, j < 4 → defaultValue (tyX7 j) = vp_V [.null, .null, .int 0, .int 0] j := fun j hj => by rcases (show j = 0 ∨ j = 1 ∨ j = 2 ∨ j = 3 by omega) with rfl | rfl | rfl | rfl <;> rfl
theorem wd_df8 : ∀ j, j < 14 → defaultValue (tyX8 j) = vp_V [.null, .null, .null, .null, .null, .null, .null, .null, .null, .int 0, .int 0, .int 0, .int 0, .int 0] j := fun j hj => by rcases (show j = 0 ∨ j = 1 ∨ j = 2 ∨ j = 3 ∨ j = 4 ∨ j = 5 ∨ j = 6 ∨ j = 7 ∨ j = 8 ∨ j = 9 ∨ j = 10 ∨ j = 11 ∨ j = 12 ∨ j = 13 by omega) with rfl | rfl | rfl | rfl | rfl | rfl | rfl | rfl | rfl | rfl | rfl | rfl | rfl | rfl <;> rfl
theorem wd_df9 : ∀ j, j < 36 → defaultValue (tyX9 j) = vp_V [.int 0, .null, .null, .null, .null, .null, .null, .null, .null, .int 0, .int 0, .int 0, .int 0, .int 0, .int 0, .null, .null, .null, .null, .null, .null, .null, .null, .int 0, .null, .null, .null, .null, .null, .null, .int 0, .int 0, .null, .null, .null, .null] j := fun j hj => by rcases (show j = 0 ∨ j = 1 ∨ j = 2 ∨ j = 3 ∨ j = 4 ∨ j = 5 ∨ j = 6 ∨ j = 7 ∨ j = 8 ∨ j = 9 ∨ j = 10 ∨ j = 11 ∨ j = 12 ∨ j = 13 ∨ j = 14 ∨ j = 15 ∨ j = 16 ∨ j = 17 ∨ j = 18 ∨ j = 19 ∨ j = 20 ∨ j = 21 ∨ j = 22 ∨ j = 23 ∨ j = 24 ∨ j = 25 ∨ j = 26 ∨ j = 27 ∨ j = 28 ∨ j = 29 ∨ j = 30 ∨ j = 31 ∨ j = 32 ∨ j = 33 ∨ j = 34 ∨ j = 35 by omega) with rfl | rfl | rfl | rfl | rfl | rfl | rfl | rfl | rfl | rfl | rfl | rfl | rfl | rfl | rfl | rfl | rfl | rfl | rfl | rfl | rfl | rfl | rfl | rfl | rfl | rfl | rfl | rfl | rfl | rfl | rfl | rfl | rfl | rfl | rfl | rfl <;> rfl
section ojQ3
variable {p : Program} {l : Launch} {e : Env} {R : Room} {s : State} {m : MethodId} {args : Array Value} {below : List Frame} {meth : Method} {c : Code} {H : Heap} {locs : List Loc} {cells slots : Nat} {Q : State → Prop} {D : va_G} {E : ojE} {A : Nat → Prop} {own : String} {cc : ByteArray} {pc nL : Nat} {ls : Array Slot} {rest : List Value} {ws : va_W} {tys : List (ClassId × FieldType)}
theorem oj_getW {ix ci j a : Nat} {v : Value} {fs : List Value} (hf : ojF own ix ci j) (hx : p.tables.exec = Jvm.exec) (hb : c.code = cc) (hown : s.vm.findClass own = some m.cls) (ht : ∀ w ∈ ojT, w.before args s = true) (hK : va_K D vwCl tys s) (hP : va_P D vwCl ws H) (q0 : Nat) (he : ws[q0]? = some (a, .inr (ci, fs))) (hv : fs[j]? = some v) (hd : decode cc pc = .ok (.getfield ix, 3))
    (kk : W p l e R s m args below meth c H locs cells slots Q (F0 m (pc + 3) ls (v :: rest))) : W p l e R s m args below meth c H locs cells slots Q (F0 m pc ls (.ref a :: rest)) := by
  obtain ⟨C, T, N, h1, h2, h3, h4⟩ := hf
  exact va_get (D := D) (ci := ci) (v := v) (C := C) (T := T) (N := N) hx hb ht h2 hown hK hP q0 he h1 j h3 (ht _ h4) (fun _ h9 => h9) hv hd kk
theorem oj_newR {C : String} {index t0 : Nat} {cA : ClassId} {n : Int32} {N : Nat} (ht0 : (ojTy E)[t0]? = some (cA, .object C)) (hx : p.tables.exec = Jvm.exec) (hb : c.code = cc) (hown : s.vm.findClass own = some m.cls) (hcl : (Cond.classLink own index C).before args s = true) (hover : va_AO C s) (hK : va_K D vwCl (ojTy E) s) (hP : va_P D vwCl ws H) (hD : va_D A ws) (hS : va_S A s.heap H locs) (hA : ∀ x, s.heap.size ≤ x → A x) (hn : ¬ n < 0) (hN : n.toNatClampNeg = N) (hN2 : N ≤ 10000) (hcells : cells + 1 ≤ R.cells) (hslots : slots + N ≤ R.slots) (hd : decode cc pc = .ok (.anewarray index, 3))
    (kk : ∀ (q : Nat) (H1 : Heap), va_P D vwCl (ws ++ [(q, .inl (cA, N, .inr (.inr (.inr (.inr (fun _ => none))))))]) H1 → va_D A (ws ++ [(q, .inl (cA, N, .inr (.inr (.inr (.inr (fun _ => none))))))]) → va_S A s.heap H1 locs → W p l e R s m args below meth c H1 locs (cells + 1) (slots + N) Q (F0 m (pc + 3) ls (.ref q :: rest))) : W p l e R s m args below meth c H locs cells slots Q (F0 m pc ls (.int n :: rest)) := by
  refine va_newq hx hb hown hcl hover hK hP hD hS hA hn hN (by omega) hcells hslots hd (fun q cB H1 hK1 hP1 hD1 hS1 => ?_)
  obtain ⟨k1, c1, a1, a2, a3, a4⟩ := (hK1.2 5 (cB, .object C) rfl).2
  obtain ⟨k2, c2, b1, b2, b3, b4⟩ := (hK.2 t0 _ ht0).2
  have e : cB = cA := Option.some.inj (a4.symm.trans b4)
  subst e
  exact kk q H1 hP1 hD1 hS1
end ojQ3
theorem i_X0 {l : Launch} {D : va_G} {E : ojE} {h0 : Nat} : ojI l D E yX0_init cX0_init 2 1 3 520 h0 (.inr (0, [.null, .null, .null, .int 0])) (fun w => ∃ (q1 q2 q3 : Nat) (fB gB : Nat → Int32), (∀ x, x < 20 → fB x = -1) ∧ (∀ x, x < 480 → gB x = -1) ∧ w = [(h0, .inr (0, [.ref q1, .ref q2, .ref q3, .int 0])), (q1, .inl (E.1, 20, .inl fB)), (q2, .inl (E.1, 20, .inl (fun _ => 0))), (q3, .inl (E.1, 480, .inl gB))]) := by
  refine ojI_W (own := RX0) (by decide) rfl rfl (by decide) ?_
  intro p e s m below meth c Q A ls hx hb hml hown ht hin hK hN hP hD hS hA hl ret
  refine lv_aload_n hx hb dX0_init_0 rfl (lv_at hl 0 rfl) ?_
  refine W.objInit hx hb hown (ht _ wd_ol0) (ht _ wd_oi) (ht _ wd_oc) rfl (by rw [hml]; exact hl.1) rfl dX0_init_1 (Nat.le_of_ble_eq_true rfl) (Nat.le_of_ble_eq_true rfl) ?_
  refine W.eq (g2 := F0 m 4 ls []) rfl ?_
  refine lv_aload_n hx hb dX0_init_4 rfl (lv_at hl 0 rfl) ?_
  refine lv_bipush (v := 20) hx hb dX0_init_5 (by decide) ?_
  refine oj_newI (N := 20) hx hb ht hK hP hD hS hA (by decide) (by decide) (by decide) (Nat.le_of_ble_eq_true rfl) (Nat.le_of_ble_eq_true rfl) dX0_init_7 (fun q1 H hP hD hS => ?_)
  have hP : va_P D vwCl [(h0, .inr (0, [.null, .null, .null, .int 0])), (q1, .inl (E.1, 20, .inl (fun _ => 0)))] H := hP
  have hD : va_D A [(h0, .inr (0, [.null, .null, .null, .int 0])), (q1, .inl (E.1, 20, .inl (fun _ => 0)))] := hD
  refine oj_putF (v := .ref q1) ff2_X0_9 hx hb hown ht hin hK hP hD hS 0 rfl rfl rfl (Nat.le_of_ble_eq_true rfl) dX0_init_9 (fun H locs hP hD hS => ?_)
  have hP : va_P D vwCl [(h0, .inr (0, [.ref q1, .null, .null, .int 0])), (q1, .inl (E.1, 20, .inl (fun _ => 0)))] H := hP
  have hD : va_D A [(h0, .inr (0, [.ref q1, .null, .null, .int 0])), (q1, .inl (E.1, 20, .inl (fun _ => 0)))] := hD
  refine lv_aload_n hx hb dX0_init_12 rfl (lv_at hl 0 rfl) ?_
  refine lv_bipush (v := 20) hx hb dX0_init_13 (by decide) ?_
  refine oj_newI (N := 20) hx hb ht hK hP hD hS hA (by decide) (by decide) (by decide) (Nat.le_of_ble_eq_true rfl) (Nat.le_of_ble_eq_true rfl) dX0_init_15 (fun q2 H hP hD hS => ?_)
  have hP : va_P D vwCl [(h0, .inr (0, [.ref q1, .null, .null, .int 0])), (q1, .inl (E.1, 20, .inl (fun _ => 0))), (q2, .inl (E.1, 20, .inl (fun _ => 0)))] H := hP
  have hD : va_D A [(h0, .inr (0, [.ref q1, .null, .null, .int 0])), (q1, .inl (E.1, 20, .inl (fun _ => 0))), (q2, .inl (E.1, 20, .inl (fun _ => 0)))] := hD
  refine oj_putF (v := .ref q2) ff2_X0_15 hx hb hown ht hin hK hP hD hS 0 rfl rfl rfl (Nat.le_of_ble_eq_true rfl) dX0_init_17 (fun H locs hP hD hS => ?_)
  have hP : va_P D vwCl [(h0, .inr (0, [.ref q1, .ref q2, .null, .int 0])), (q1, .inl (E.1, 20, .inl (fun _ => 0))), (q2, .inl (E.1, 20, .inl (fun _ => 0)))] H := hP
  have hD : va_D A [(h0, .inr (0, [.ref q1, .ref q2, .null, .int 0])), (q1, .inl (E.1, 20, .inl (fun _ => 0))), (q2, .inl (E.1, 20, .inl (fun _ => 0)))] := hD
  refine lv_aload_n hx hb dX0_init_20 rfl (lv_at hl 0 rfl) ?_
  refine lv_sipush (v := 480) hx hb dX0_init_21 (by decide) ?_
  refine oj_newI (N := 480) hx hb ht hK hP hD hS hA (by decide) (by decide) (by decide) (Nat.le_of_ble_eq_true rfl) (Nat.le_of_ble_eq_true rfl) dX0_init_24 (fun q3 H hP hD hS => ?_)
  have hP : va_P D vwCl [(h0, .inr (0, [.ref q1, .ref q2, .null, .int 0])), (q1, .inl (E.1, 20, .inl (fun _ => 0))), (q2, .inl (E.1, 20, .inl (fun _ => 0))), (q3, .inl (E.1, 480, .inl (fun _ => 0)))] H := hP
  have hD : va_D A [(h0, .inr (0, [.ref q1, .ref q2, .null, .int 0])), (q1, .inl (E.1, 20, .inl (fun _ => 0))), (q2, .inl (E.1, 20, .inl (fun _ => 0))), (q3, .inl (E.1, 480, .inl (fun _ => 0)))] := hD
  refine oj_putF (v := .ref q3) ff2_X0_18 hx hb hown ht hin hK hP hD hS 0 rfl rfl rfl (Nat.le_of_ble_eq_true rfl) dX0_init_26 (fun H locs hP hD hS => ?_)
  have hP : va_P D vwCl [(h0, .inr (0, [.ref q1, .ref q2, .ref q3, .int 0])), (q1, .inl (E.1, 20, .inl (fun _ => 0))), (q2, .inl (E.1, 20, .inl (fun _ => 0))), (q3, .inl (E.1, 480, .inl (fun _ => 0)))] H := hP
  have hD : va_D A [(h0, .inr (0, [.ref q1, .ref q2, .ref q3, .int 0])), (q1, .inl (E.1, 20, .inl (fun _ => 0))), (q2, .inl (E.1, 20, .inl (fun _ => 0))), (q3, .inl (E.1, 480, .inl (fun _ => 0)))] := hD
  refine lv_iconst (v := 0) hx hb dX0_init_29 (by decide) ?_
  refine lv_istore_n (lv' := [(1, .int 0), (0, .ref h0)]) hx hb dX0_init_30 rfl hl (by decide) rfl (fun ls hl => ?_)
  have loop2 : ∀ (n t : Nat) (f g : Nat → Int32) (H : Heap) (locs : List Loc) (ls : Array Slot), t + n = 480 → (∀ x, x < 20 → f x = -1) → (∀ x, x < t → g x = -1) → va_P D vwCl [(h0, .inr (0, [.ref q1, .ref q2, .ref q3, .int 0])), (q1, .inl (E.1, 20, .inl f)), (q2, .inl (E.1, 20, .inl (fun _ => 0))), (q3, .inl (E.1, 480, .inl g))] H → va_D A [(h0, .inr (0, [.ref q1, .ref q2, .ref q3, .int 0])), (q1, .inl (E.1, 20, .inl f)), (q2, .inl (E.1, 20, .inl (fun _ => 0))), (q3, .inl (E.1, 480, .inl g))] → va_S A s.heap H locs → lv_has ls 2 [(1, .int (nI t)), (0, .ref h0)] → W p l e (ojRi2 1 3 520) s m #[Value.ref h0] below meth c H locs 3 520 Q (F0 m 52 ls []) := by
    intro n
    induction n with
    | zero =>
      intro t f g H locs ls hn hf hg hP hD hS hl
      refine lv_iload_n hx hb dX0_init_52 rfl (lv_at hl 0 rfl) ?_
      refine lv_sipush (v := 480) hx hb dX0_init_53 (by decide) ?_
      refine lv_icmp_ge (tgt := 72) hx hb dX0_init_56 (by decide) (fun _ => ?_) (fun h => absurd (show (480 : Int32) ≤ nI t by rw [show t = 480 by omega]; decide) h)
      exact ret _ _ _ _ _ ⟨q1, q2, q3, f, g, hf, fun x hx => hg x (by omega), rfl⟩ hP hD hS dX0_init_72
    | succ n ih =>
      intro t f g H locs ls hn hf hg hP hD hS hl
      refine lv_iload_n hx hb dX0_init_52 rfl (lv_at hl 0 rfl) ?_
      refine lv_sipush (v := 480) hx hb dX0_init_53 (by decide) ?_
      refine lv_icmp_ge (tgt := 72) hx hb dX0_init_56 (by decide) (fun h => absurd h (nI_ge (a := t) (b := 480) (by omega) (by decide))) (fun _ => ?_)
      refine lv_aload_n hx hb dX0_init_59 rfl (lv_at hl 1 rfl) ?_
      refine oj_getW ff_X0_18 hx hb hown ht hK hP 0 rfl rfl dX0_init_60 ?_
      refine lv_iload_n hx hb dX0_init_63 rfl (lv_at hl 0 rfl) ?_
      refine lv_iconst (v := -1) hx hb dX0_init_64 (by decide) ?_
      refine va_iast hx hb hK hP hD hS 3 0 rfl rfl (i := nI t) (x := -1) (vp_in_nI (by omega) (by omega)) dX0_init_65 (fun H locs hP hD hS => ?_)
      rw [nI_clamp (by omega)] at hP hD
      refine lv_iinc (v := nI (t + 1)) (lv' := [(1, .int (nI (t + 1))), (0, .ref h0)]) hx hb dX0_init_66 hl (k := 0) rfl (nI_1 t) (by decide) rfl (fun ls hl => ?_)
      refine lv_goto (tgt := 52) hx hb dX0_init_69 (by decide) ?_
      refine ih (t + 1) f (upd g t (-1)) H locs ls (by omega) hf (fun x hx => ?_) hP hD hS hl
      by_cases e : x = t
      · rw [e, upd_eq]
      · rw [upd_ne e]; exact hg x (by omega)
  have loop1 : ∀ (n t : Nat) (f : Nat → Int32) (H : Heap) (locs : List Loc) (ls : Array Slot), t + n = 20 → (∀ x, x < t → f x = -1) → va_P D vwCl [(h0, .inr (0, [.ref q1, .ref q2, .ref q3, .int 0])), (q1, .inl (E.1, 20, .inl f)), (q2, .inl (E.1, 20, .inl (fun _ => 0))), (q3, .inl (E.1, 480, .inl (fun _ => 0)))] H → va_D A [(h0, .inr (0, [.ref q1, .ref q2, .ref q3, .int 0])), (q1, .inl (E.1, 20, .inl f)), (q2, .inl (E.1, 20, .inl (fun _ => 0))), (q3, .inl (E.1, 480, .inl (fun _ => 0)))] → va_S A s.heap H locs → lv_has ls 2 [(1, .int (nI t)), (0, .ref h0)] → W p l e (ojRi2 1 3 520) s m #[Value.ref h0] below meth c H locs 3 520 Q (F0 m 31 ls []) := by
    intro n
    induction n with
    | zero =>
      intro t f H locs ls hn hf hP hD hS hl
      refine lv_iload_n hx hb dX0_init_31 rfl (lv_at hl 0 rfl) ?_
      refine lv_bipush (v := 20) hx hb dX0_init_32 (by decide) ?_
      refine lv_icmp_ge (tgt := 50) hx hb dX0_init_34 (by decide) (fun _ => ?_) (fun h => absurd (show (20 : Int32) ≤ nI t by rw [show t = 20 by omega]; decide) h)
      refine lv_iconst (v := 0) hx hb dX0_init_50 (by decide) ?_
      refine lv_istore_n (lv' := [(1, .int 0), (0, .ref h0)]) hx hb dX0_init_51 rfl hl (by decide) rfl (fun ls hl => ?_)
      exact loop2 480 0 f _ H locs ls (by omega) (fun x hx => hf x (by omega)) (fun x hx => by omega) hP hD hS hl
    | succ n ih =>
      intro t f H locs ls hn hf hP hD hS hl
      refine lv_iload_n hx hb dX0_init_31 rfl (lv_at hl 0 rfl) ?_
      refine lv_bipush (v := 20) hx hb dX0_init_32 (by decide) ?_
      refine lv_icmp_ge (tgt := 50) hx hb dX0_init_34 (by decide) (fun h => absurd h (nI_ge (a := t) (b := 20) (by omega) (by decide))) (fun _ => ?_)
      refine lv_aload_n hx hb dX0_init_37 rfl (lv_at hl 1 rfl) ?_
      refine oj_getW ff_X0_9 hx hb hown ht hK hP 0 rfl rfl dX0_init_38 ?_
      refine lv_iload_n hx hb dX0_init_41 rfl (lv_at hl 0 rfl) ?_
      refine lv_iconst (v := -1) hx hb dX0_init_42 (by decide) ?_
      refine va_iast hx hb hK hP hD hS 1 0 rfl rfl (i := nI t) (x := -1) (vp_in_nI (by omega) (by omega)) dX0_init_43 (fun H locs hP hD hS => ?_)
      rw [nI_clamp (by omega)] at hP hD
      refine lv_iinc (v := nI (t + 1)) (lv' := [(1, .int (nI (t + 1))), (0, .ref h0)]) hx hb dX0_init_44 hl (k := 0) rfl (nI_1 t) (by decide) rfl (fun ls hl => ?_)
      refine lv_goto (tgt := 31) hx hb dX0_init_47 (by decide) ?_
      refine ih (t + 1) (upd f t (-1)) H locs ls (by omega) (fun x hx => ?_) hP hD hS hl
      by_cases e : x = t
      · rw [e, upd_eq]
      · rw [upd_ne e]; exact hf x (by omega)
  exact loop1 20 0 _ H locs ls (by omega) (fun x hx => by omega) hP hD hS hl
theorem i_X1 {l : Launch} {D : va_G} {E : ojE} {h0 : Nat} : ojI l D E yX1_init cX1_init 2 2 5 28 h0 (.inr (1, [.null, .int 0])) (fun w => ∃ (q1 : Nat) (q2 : Nat) (q3 : Nat) (q4 : Nat) (q5 : Nat), w = [(h0, .inr (1, [.ref q1, .int 0])), (q1, .inl (E.2.2.2.1, 4, .inr (.inr (.inr (.inr (va_up (va_up (va_up (va_up (fun _ => none) 0 (some q2)) 1 (some q3)) 2 (some q4)) 3 (some q5))))))), (q2, .inr (5, [.int 0, .int 0, .int 0, .int 0, .int 0, .int 0])), (q3, .inr (5, [.int 0, .int 0, .int 0, .int 0, .int 0, .int 0])), (q4, .inr (5, [.int 0, .int 0, .int 0, .int 0, .int 0, .int 0])), (q5, .inr (5, [.int 0, .int 0, .int 0, .int 0, .int 0, .int 0]))]) := by
  refine ojI_W (own := RX1) (by decide) rfl rfl (by decide) ?_
  intro p e s m below meth c Q A ls hx hb hml hown ht hin hK hN hP hD hS hA hl ret
  refine lv_aload_n hx hb dX1_init_0 rfl (lv_at hl 0 rfl) ?_
  refine W.objInit hx hb hown (ht _ wd_ol1) (ht _ wd_oi) (ht _ wd_oc) rfl (by rw [hml]; exact hl.1) rfl dX1_init_1 (Nat.le_of_ble_eq_true rfl) (Nat.le_of_ble_eq_true rfl) ?_
  refine W.eq (g2 := F0 m 4 ls []) rfl ?_
  refine lv_aload_n hx hb dX1_init_4 rfl (lv_at hl 0 rfl) ?_
  refine lv_iconst (v := 4) hx hb dX1_init_5 (by decide) ?_
  refine oj_newR (t0 := 3) (cA := E.2.2.2.1) (N := 4) rfl hx hb hown (ht _ wd_cl1_9) hN.2.2.2.2.2.2.1 hK hP hD hS hA (by decide) (by decide) (by decide) (Nat.le_of_ble_eq_true rfl) (Nat.le_of_ble_eq_true rfl) dX1_init_6 (fun q1 H hP hD hS => ?_)
  have hP : va_P D vwCl [(h0, .inr (1, [.null, .int 0])), (q1, .inl (E.2.2.2.1, 4, .inr (.inr (.inr (.inr (fun _ => none))))))] H := hP
  have hD : va_D A [(h0, .inr (1, [.null, .int 0])), (q1, .inl (E.2.2.2.1, 4, .inr (.inr (.inr (.inr (fun _ => none))))))] := hD
  refine oj_putF (v := .ref q1) ff2_X1_11 hx hb hown ht hin hK hP hD hS 0 rfl rfl rfl (Nat.le_of_ble_eq_true rfl) dX1_init_9 (fun H locs hP hD hS => ?_)
  have hP : va_P D vwCl [(h0, .inr (1, [.ref q1, .int 0])), (q1, .inl (E.2.2.2.1, 4, .inr (.inr (.inr (.inr (fun _ => none))))))] H := hP
  have hD : va_D A [(h0, .inr (1, [.ref q1, .int 0])), (q1, .inl (E.2.2.2.1, 4, .inr (.inr (.inr (.inr (fun _ => none))))))] := hD
  refine lv_iconst (v := 0) hx hb dX1_init_12 (by decide) ?_
  refine lv_istore_n (lv' := [(1, .int 0), (0, .ref h0)]) hx hb dX1_init_13 rfl hl (by decide) rfl (fun ls hl => ?_)
  refine lv_iload_n hx hb dX1_init_14 rfl (lv_at hl 0 rfl) ?_
  refine lv_iconst (v := 4) hx hb dX1_init_15 (by decide) ?_
  refine lv_icmp_ge (tgt := 38) hx hb dX1_init_16 (by decide) (fun h => absurd h (by decide)) (fun _ => ?_)
  refine lv_aload_n hx hb dX1_init_19 rfl (lv_at hl 1 rfl) ?_
  refine oj_getW ff_X1_11 hx hb hown ht hK hP 0 rfl rfl dX1_init_20 ?_
  refine lv_iload_n hx hb dX1_init_23 rfl (lv_at hl 0 rfl) ?_
  refine va_new (ci := 5) (fs := [.int 0, .int 0, .int 0, .int 0, .int 0, .int 0]) (C := RX5) (T := TX5) (N := 6) hx hb ht inoX5 tyX5 tyX5_ok hown (ht _ wd_cl1_9) (ht _ wd_in5) (ht _ wd_it5) hK hP hD hS hA rfl wd_df5 (Nat.le_of_ble_eq_true rfl) (Nat.le_of_ble_eq_true rfl) dX1_init_24 (fun q2 H hP hD hS => ?_)
  have hP : va_P D vwCl [(h0, .inr (1, [.ref q1, .int 0])), (q1, .inl (E.2.2.2.1, 4, .inr (.inr (.inr (.inr (fun _ => none)))))), (q2, .inr (5, [.int 0, .int 0, .int 0, .int 0, .int 0, .int 0]))] H := hP
  have hD : va_D A [(h0, .inr (1, [.ref q1, .int 0])), (q1, .inl (E.2.2.2.1, 4, .inr (.inr (.inr (.inr (fun _ => none)))))), (q2, .inr (5, [.int 0, .int 0, .int 0, .int 0, .int 0, .int 0]))] := hD
  refine lv_dup hx hb dX1_init_27 rfl ?_
  refine oj_ctor (E := E) (ws := [(h0, .inr (1, [.ref q1, .int 0])), (q1, .inl (E.2.2.2.1, 4, .inr (.inr (.inr (.inr (fun _ => none))))))]) hx hb hml hown ht hK hN hP hD hS hA hl.1 (Or.inr ⟨_, hN.2.2.1⟩) wd_it5 wd_cd5 wd_im5 wd_dd5 rfl i_X5 (by decide) (Nat.le_of_ble_eq_true rfl) dX1_init_28 (by constructor <;> exact Nat.le_of_ble_eq_true rfl) (fun w H locs hpost hP hD hS => ?_)
  obtain rfl := hpost
  have hP : va_P D vwCl [(h0, .inr (1, [.ref q1, .int 0])), (q1, .inl (E.2.2.2.1, 4, .inr (.inr (.inr (.inr (fun _ => none)))))), (q2, .inr (5, [.int 0, .int 0, .int 0, .int 0, .int 0, .int 0]))] H := hP
  have hD : va_D A [(h0, .inr (1, [.ref q1, .int 0])), (q1, .inl (E.2.2.2.1, 4, .inr (.inr (.inr (.inr (fun _ => none)))))), (q2, .inr (5, [.int 0, .int 0, .int 0, .int 0, .int 0, .int 0]))] := hD
  refine va_astq hx hb hK hP hD hS 1 3 2 5 (r := (RX5, TX5, 6)) rfl rfl rfl rfl (i := 0) (vp_in_nI (show 0 < 4 by decide) (by decide)) dX1_init_31 (fun H locs hP hD hS => ?_)
  have hP : va_P D vwCl [(h0, .inr (1, [.ref q1, .int 0])), (q1, .inl (E.2.2.2.1, 4, .inr (.inr (.inr (.inr (va_up (fun _ => none) 0 (some q2))))))), (q2, .inr (5, [.int 0, .int 0, .int 0, .int 0, .int 0, .int 0]))] H := hP
  have hD : va_D A [(h0, .inr (1, [.ref q1, .int 0])), (q1, .inl (E.2.2.2.1, 4, .inr (.inr (.inr (.inr (va_up (fun _ => none) 0 (some q2))))))), (q2, .inr (5, [.int 0, .int 0, .int 0, .int 0, .int 0, .int 0]))] := hD
  refine lv_iinc (v := 1) (lv' := [(1, .int 1), (0, .ref h0)]) hx hb dX1_init_32 hl (k := 0) rfl (by decide) (by decide) rfl (fun ls hl => ?_)
  refine lv_goto (tgt := 14) hx hb dX1_init_35 (by decide) ?_
  refine lv_iload_n hx hb dX1_init_14 rfl (lv_at hl 0 rfl) ?_
  refine lv_iconst (v := 4) hx hb dX1_init_15 (by decide) ?_
  refine lv_icmp_ge (tgt := 38) hx hb dX1_init_16 (by decide) (fun h => absurd h (by decide)) (fun _ => ?_)
  refine lv_aload_n hx hb dX1_init_19 rfl (lv_at hl 1 rfl) ?_
  refine oj_getW ff_X1_11 hx hb hown ht hK hP 0 rfl rfl dX1_init_20 ?_
  refine lv_iload_n hx hb dX1_init_23 rfl (lv_at hl 0 rfl) ?_
  refine va_new (ci := 5) (fs := [.int 0, .int 0, .int 0, .int 0, .int 0, .int 0]) (C := RX5) (T := TX5) (N := 6) hx hb ht inoX5 tyX5 tyX5_ok hown (ht _ wd_cl1_9) (ht _ wd_in5) (ht _ wd_it5) hK hP hD hS hA rfl wd_df5 (Nat.le_of_ble_eq_true rfl) (Nat.le_of_ble_eq_true rfl) dX1_init_24 (fun q3 H hP hD hS => ?_)
  have hP : va_P D vwCl [(h0, .inr (1, [.ref q1, .int 0])), (q1, .inl (E.2.2.2.1, 4, .inr (.inr (.inr (.inr (va_up (fun _ => none) 0 (some q2))))))), (q2, .inr (5, [.int 0, .int 0, .int 0, .int 0, .int 0, .int 0])), (q3, .inr (5, [.int 0, .int 0, .int 0, .int 0, .int 0, .int 0]))] H := hP
  have hD : va_D A [(h0, .inr (1, [.ref q1, .int 0])), (q1, .inl (E.2.2.2.1, 4, .inr (.inr (.inr (.inr (va_up (fun _ => none) 0 (some q2))))))), (q2, .inr (5, [.int 0, .int 0, .int 0, .int 0, .int 0, .int 0])), (q3, .inr (5, [.int 0, .int 0, .int 0, .int 0, .int 0, .int 0]))] := hD
  refine lv_dup hx hb dX1_init_27 rfl ?_
  refine oj_ctor (E := E) (ws := [(h0, .inr (1, [.ref q1, .int 0])), (q1, .inl (E.2.2.2.1, 4, .inr (.inr (.inr (.inr (va_up (fun _ => none) 0 (some q2))))))), (q2, .inr (5, [.int 0, .int 0, .int 0, .int 0, .int 0, .int 0]))]) hx hb hml hown ht hK hN hP hD hS hA hl.1 (Or.inr ⟨_, hN.2.2.1⟩) wd_it5 wd_cd5 wd_im5 wd_dd5 rfl i_X5 (by decide) (Nat.le_of_ble_eq_true rfl) dX1_init_28 (by constructor <;> exact Nat.le_of_ble_eq_true rfl) (fun w H locs hpost hP hD hS => ?_)
  obtain rfl := hpost
  have hP : va_P D vwCl [(h0, .inr (1, [.ref q1, .int 0])), (q1, .inl (E.2.2.2.1, 4, .inr (.inr (.inr (.inr (va_up (fun _ => none) 0 (some q2))))))), (q2, .inr (5, [.int 0, .int 0, .int 0, .int 0, .int 0, .int 0])), (q3, .inr (5, [.int 0, .int 0, .int 0, .int 0, .int 0, .int 0]))] H := hP
  have hD : va_D A [(h0, .inr (1, [.ref q1, .int 0])), (q1, .inl (E.2.2.2.1, 4, .inr (.inr (.inr (.inr (va_up (fun _ => none) 0 (some q2))))))), (q2, .inr (5, [.int 0, .int 0, .int 0, .int 0, .int 0, .int 0])), (q3, .inr (5, [.int 0, .int 0, .int 0, .int 0, .int 0, .int 0]))] := hD
  refine va_astq hx hb hK hP hD hS 1 3 3 5 (r := (RX5, TX5, 6)) rfl rfl rfl rfl (i := 1) (vp_in_nI (show 1 < 4 by decide) (by decide)) dX1_init_31 (fun H locs hP hD hS => ?_)
  have hP : va_P D vwCl [(h0, .inr (1, [.ref q1, .int 0])), (q1, .inl (E.2.2.2.1, 4, .inr (.inr (.inr (.inr (va_up (va_up (fun _ => none) 0 (some q2)) 1 (some q3))))))), (q2, .inr (5, [.int 0, .int 0, .int 0, .int 0, .int 0, .int 0])), (q3, .inr (5, [.int 0, .int 0, .int 0, .int 0, .int 0, .int 0]))] H := hP
  have hD : va_D A [(h0, .inr (1, [.ref q1, .int 0])), (q1, .inl (E.2.2.2.1, 4, .inr (.inr (.inr (.inr (va_up (va_up (fun _ => none) 0 (some q2)) 1 (some q3))))))), (q2, .inr (5, [.int 0, .int 0, .int 0, .int 0, .int 0, .int 0])), (q3, .inr (5, [.int 0, .int 0, .int 0, .int 0, .int 0, .int 0]))] := hD
  refine lv_iinc (v := 2) (lv' := [(1, .int 2), (0, .ref h0)]) hx hb dX1_init_32 hl (k := 0) rfl (by decide) (by decide) rfl (fun ls hl => ?_)
  refine lv_goto (tgt := 14) hx hb dX1_init_35 (by decide) ?_
  refine lv_iload_n hx hb dX1_init_14 rfl (lv_at hl 0 rfl) ?_
  refine lv_iconst (v := 4) hx hb dX1_init_15 (by decide) ?_
  refine lv_icmp_ge (tgt := 38) hx hb dX1_init_16 (by decide) (fun h => absurd h (by decide)) (fun _ => ?_)
  refine lv_aload_n hx hb dX1_init_19 rfl (lv_at hl 1 rfl) ?_
  refine oj_getW ff_X1_11 hx hb hown ht hK hP 0 rfl rfl dX1_init_20 ?_
  refine lv_iload_n hx hb dX1_init_23 rfl (lv_at hl 0 rfl) ?_
  refine va_new (ci := 5) (fs := [.int 0, .int 0, .int 0, .int 0, .int 0, .int 0]) (C := RX5) (T := TX5) (N := 6) hx hb ht inoX5 tyX5 tyX5_ok hown (ht _ wd_cl1_9) (ht _ wd_in5) (ht _ wd_it5) hK hP hD hS hA rfl wd_df5 (Nat.le_of_ble_eq_true rfl) (Nat.le_of_ble_eq_true rfl) dX1_init_24 (fun q4 H hP hD hS => ?_)
  have hP : va_P D vwCl [(h0, .inr (1, [.ref q1, .int 0])), (q1, .inl (E.2.2.2.1, 4, .inr (.inr (.inr (.inr (va_up (va_up (fun _ => none) 0 (some q2)) 1 (some q3))))))), (q2, .inr (5, [.int 0, .int 0, .int 0, .int 0, .int 0, .int 0])), (q3, .inr (5, [.int 0, .int 0, .int 0, .int 0, .int 0, .int 0])), (q4, .inr (5, [.int 0, .int 0, .int 0, .int 0, .int 0, .int 0]))] H := hP
  have hD : va_D A [(h0, .inr (1, [.ref q1, .int 0])), (q1, .inl (E.2.2.2.1, 4, .inr (.inr (.inr (.inr (va_up (va_up (fun _ => none) 0 (some q2)) 1 (some q3))))))), (q2, .inr (5, [.int 0, .int 0, .int 0, .int 0, .int 0, .int 0])), (q3, .inr (5, [.int 0, .int 0, .int 0, .int 0, .int 0, .int 0])), (q4, .inr (5, [.int 0, .int 0, .int 0, .int 0, .int 0, .int 0]))] := hD
  refine lv_dup hx hb dX1_init_27 rfl ?_
  refine oj_ctor (E := E) (ws := [(h0, .inr (1, [.ref q1, .int 0])), (q1, .inl (E.2.2.2.1, 4, .inr (.inr (.inr (.inr (va_up (va_up (fun _ => none) 0 (some q2)) 1 (some q3))))))), (q2, .inr (5, [.int 0, .int 0, .int 0, .int 0, .int 0, .int 0])), (q3, .inr (5, [.int 0, .int 0, .int 0, .int 0, .int 0, .int 0]))]) hx hb hml hown ht hK hN hP hD hS hA hl.1 (Or.inr ⟨_, hN.2.2.1⟩) wd_it5 wd_cd5 wd_im5 wd_dd5 rfl i_X5 (by decide) (Nat.le_of_ble_eq_true rfl) dX1_init_28 (by constructor <;> exact Nat.le_of_ble_eq_true rfl) (fun w H locs hpost hP hD hS => ?_)
  obtain rfl := hpost
  have hP : va_P D vwCl [(h0, .inr (1, [.ref q1, .int 0])), (q1, .inl (E.2.2.2.1, 4, .inr (.inr (.inr (.inr (va_up (va_up (fun _ => none) 0 (some q2)) 1 (some q3))))))), (q2, .inr (5, [.int 0, .int 0, .int 0, .int 0, .int 0, .int 0])), (q3, .inr (5, [.int 0, .int 0, .int 0, .int 0, .int 0, .int 0])), (q4, .inr (5, [.int 0, .int 0, .int 0, .int 0, .int 0, .int 0]))] H := hP
  have hD : va_D A [(h0, .inr (1, [.ref q1, .int 0])), (q1, .inl (E.2.2.2.1, 4, .inr (.inr (.inr (.inr (va_up (va_up (fun _ => none) 0 (some q2)) 1 (some q3))))))), (q2, .inr (5, [.int 0, .int 0, .int 0, .int 0, .int 0, .int 0])), (q3, .inr (5, [.int 0, .int 0, .int 0, .int 0, .int 0, .int 0])), (q4, .inr (5, [.int 0, .int 0, .int 0, .int 0, .int 0, .int 0]))] := hD
  refine va_astq hx hb hK hP hD hS 1 3 4 5 (r := (RX5, TX5, 6)) rfl rfl rfl rfl (i := 2) (vp_in_nI (show 2 < 4 by decide) (by decide)) dX1_init_31 (fun H locs hP hD hS => ?_)
  have hP : va_P D vwCl [(h0, .inr (1, [.ref q1, .int 0])), (q1, .inl (E.2.2.2.1, 4, .inr (.inr (.inr (.inr (va_up (va_up (va_up (fun _ => none) 0 (some q2)) 1 (some q3)) 2 (some q4))))))), (q2, .inr (5, [.int 0, .int 0, .int 0, .int 0, .int 0, .int 0])), (q3, .inr (5, [.int 0, .int 0, .int 0, .int 0, .int 0, .int 0])), (q4, .inr (5, [.int 0, .int 0, .int 0, .int 0, .int 0, .int 0]))] H := hP
  have hD : va_D A [(h0, .inr (1, [.ref q1, .int 0])), (q1, .inl (E.2.2.2.1, 4, .inr (.inr (.inr (.inr (va_up (va_up (va_up (fun _ => none) 0 (some q2)) 1 (some q3)) 2 (some q4))))))), (q2, .inr (5, [.int 0, .int 0, .int 0, .int 0, .int 0, .int 0])), (q3, .inr (5, [.int 0, .int 0, .int 0, .int 0, .int 0, .int 0])), (q4, .inr (5, [.int 0, .int 0, .int 0, .int 0, .int 0, .int 0]))] := hD
  refine lv_iinc (v := 3) (lv' := [(1, .int 3), (0, .ref h0)]) hx hb dX1_init_32 hl (k := 0) rfl (by decide) (by decide) rfl (fun ls hl => ?_)
  refine lv_goto (tgt := 14) hx hb dX1_init_35 (by decide) ?_
  refine lv_iload_n hx hb dX1_init_14 rfl (lv_at hl 0 rfl) ?_
  refine lv_iconst (v := 4) hx hb dX1_init_15 (by decide) ?_
  refine lv_icmp_ge (tgt := 38) hx hb dX1_init_16 (by decide) (fun h => absurd h (by decide)) (fun _ => ?_)
  refine lv_aload_n hx hb dX1_init_19 rfl (lv_at hl 1 rfl) ?_
  refine oj_getW ff_X1_11 hx hb hown ht hK hP 0 rfl rfl dX1_init_20 ?_
  refine lv_iload_n hx hb dX1_init_23 rfl (lv_at hl 0 rfl) ?_
  refine va_new (ci := 5) (fs := [.int 0, .int 0, .int 0, .int 0, .int 0, .int 0]) (C := RX5) (T := TX5) (N := 6) hx hb ht inoX5 tyX5 tyX5_ok hown (ht _ wd_cl1_9) (ht _ wd_in5) (ht _ wd_it5) hK hP hD hS hA rfl wd_df5 (Nat.le_of_ble_eq_true rfl) (Nat.le_of_ble_eq_true rfl) dX1_init_24 (fun q5 H hP hD hS => ?_)
  have hP : va_P D vwCl [(h0, .inr (1, [.ref q1, .int 0])), (q1, .inl (E.2.2.2.1, 4, .inr (.inr (.inr (.inr (va_up (va_up (va_up (fun _ => none) 0 (some q2)) 1 (some q3)) 2 (some q4))))))), (q2, .inr (5, [.int 0, .int 0, .int 0, .int 0, .int 0, .int 0])), (q3, .inr (5, [.int 0, .int 0, .int 0, .int 0, .int 0, .int 0])), (q4, .inr (5, [.int 0, .int 0, .int 0, .int 0, .int 0, .int 0])), (q5, .inr (5, [.int 0, .int 0, .int 0, .int 0, .int 0, .int 0]))] H := hP
  have hD : va_D A [(h0, .inr (1, [.ref q1, .int 0])), (q1, .inl (E.2.2.2.1, 4, .inr (.inr (.inr (.inr (va_up (va_up (va_up (fun _ => none) 0 (some q2)) 1 (some q3)) 2 (some q4))))))), (q2, .inr (5, [.int 0, .int 0, .int 0, .int 0, .int 0, .int 0])), (q3, .inr (5, [.int 0, .int 0, .int 0, .int 0, .int 0, .int 0])), (q4, .inr (5, [.int 0, .int 0, .int 0, .int 0, .int 0, .int 0])), (q5, .inr (5, [.int 0, .int 0, .int 0, .int 0, .int 0, .int 0]))] := hD
  refine lv_dup hx hb dX1_init_27 rfl ?_
  refine oj_ctor (E := E) (ws := [(h0, .inr (1, [.ref q1, .int 0])), (q1, .inl (E.2.2.2.1, 4, .inr (.inr (.inr (.inr (va_up (va_up (va_up (fun _ => none) 0 (some q2)) 1 (some q3)) 2 (some q4))))))), (q2, .inr (5, [.int 0, .int 0, .int 0, .int 0, .int 0, .int 0])), (q3, .inr (5, [.int 0, .int 0, .int 0, .int 0, .int 0, .int 0])), (q4, .inr (5, [.int 0, .int 0, .int 0, .int 0, .int 0, .int 0]))]) hx hb hml hown ht hK hN hP hD hS hA hl.1 (Or.inr ⟨_, hN.2.2.1⟩) wd_it5 wd_cd5 wd_im5 wd_dd5 rfl i_X5 (by decide) (Nat.le_of_ble_eq_true rfl) dX1_init_28 (by constructor <;> exact Nat.le_of_ble_eq_true rfl) (fun w H locs hpost hP hD hS => ?_)
  obtain rfl := hpost
  have hP : va_P D vwCl [(h0, .inr (1, [.ref q1, .int 0])), (q1, .inl (E.2.2.2.1, 4, .inr (.inr (.inr (.inr (va_up (va_up (va_up (fun _ => none) 0 (some q2)) 1 (some q3)) 2 (some q4))))))), (q2, .inr (5, [.int 0, .int 0, .int 0, .int 0, .int 0, .int 0])), (q3, .inr (5, [.int 0, .int 0, .int 0, .int 0, .int 0, .int 0])), (q4, .inr (5, [.int 0, .int 0, .int 0, .int 0, .int 0, .int 0])), (q5, .inr (5, [.int 0, .int 0, .int 0, .int 0, .int 0, .int 0]))] H := hP
  have hD : va_D A [(h0, .inr (1, [.ref q1, .int 0])), (q1, .inl (E.2.2.2.1, 4, .inr (.inr (.inr (.inr (va_up (va_up (va_up (fun _ => none) 0 (some q2)) 1 (some q3)) 2 (some q4))))))), (q2, .inr (5, [.int 0, .int 0, .int 0, .int 0, .int 0, .int 0])), (q3, .inr (5, [.int 0, .int 0, .int 0, .int 0, .int 0, .int 0])), (q4, .inr (5, [.int 0, .int 0, .int 0, .int 0, .int 0, .int 0])), (q5, .inr (5, [.int 0, .int 0, .int 0, .int 0, .int 0, .int 0]))] := hD
  refine va_astq hx hb hK hP hD hS 1 3 5 5 (r := (RX5, TX5, 6)) rfl rfl rfl rfl (i := 3) (vp_in_nI (show 3 < 4 by decide) (by decide)) dX1_init_31 (fun H locs hP hD hS => ?_)
  have hP : va_P D vwCl [(h0, .inr (1, [.ref q1, .int 0])), (q1, .inl (E.2.2.2.1, 4, .inr (.inr (.inr (.inr (va_up (va_up (va_up (va_up (fun _ => none) 0 (some q2)) 1 (some q3)) 2 (some q4)) 3 (some q5))))))), (q2, .inr (5, [.int 0, .int 0, .int 0, .int 0, .int 0, .int 0])), (q3, .inr (5, [.int 0, .int 0, .int 0, .int 0, .int 0, .int 0])), (q4, .inr (5, [.int 0, .int 0, .int 0, .int 0, .int 0, .int 0])), (q5, .inr (5, [.int 0, .int 0, .int 0, .int 0, .int 0, .int 0]))] H := hP
  have hD : va_D A [(h0, .inr (1, [.ref q1, .int 0])), (q1, .inl (E.2.2.2.1, 4, .inr (.inr (.inr (.inr (va_up (va_up (va_up (va_up (fun _ => none) 0 (some q2)) 1 (some q3)) 2 (some q4)) 3 (some q5))))))), (q2, .inr (5, [.int 0, .int 0, .int 0, .int 0, .int 0, .int 0])), (q3, .inr (5, [.int 0, .int 0, .int 0, .int 0, .int 0, .int 0])), (q4, .inr (5, [.int 0, .int 0, .int 0, .int 0, .int 0, .int 0])), (q5, .inr (5, [.int 0, .int 0, .int 0, .int 0, .int 0, .int 0]))] := hD
  refine lv_iinc (v := 4) (lv' := [(1, .int 4), (0, .ref h0)]) hx hb dX1_init_32 hl (k := 0) rfl (by decide) (by decide) rfl (fun ls hl => ?_)
  refine lv_goto (tgt := 14) hx hb dX1_init_35 (by decide) ?_
  refine lv_iload_n hx hb dX1_init_14 rfl (lv_at hl 0 rfl) ?_
  refine lv_iconst (v := 4) hx hb dX1_init_15 (by decide) ?_
  refine lv_icmp_ge (tgt := 38) hx hb dX1_init_16 (by decide) (fun _ => ?_) (fun h => absurd (by decide) h)
  exact ret _ _ _ _ _ ⟨q1, q2, q3, q4, q5, rfl⟩ hP hD hS dX1_init_38

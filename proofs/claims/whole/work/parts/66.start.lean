theorem wd_lc7 : Cond.classLink RL 7 RX8 ∈ ojT := ojT_in (by decide +kernel) rfl
theorem wd_lc10 : Cond.classLink RL 10 RX9 ∈ ojT := ojT_in (by decide +kernel) rfl
theorem wd_lk9 : Cond.methodLink RL 9 yX8_init ∈ ojT := ojT_in (by decide +kernel) rfl
theorem wd_lk12 : Cond.methodLink RL 12 yX9_init ∈ ojT := ojT_in (by decide +kernel) rfl
theorem wn_8_11 : Cond.methodLinkNest RX8 11 yX2_init "OilWatch" ∈ lw_tbl := by decide +kernel
theorem wn_8_25 : Cond.methodLinkNest RX8 25 yX6_init "OilWatch" ∈ lw_tbl := by decide +kernel
theorem wn_1_17 : Cond.methodLinkNest RX1 17 yX5_init "OilWatch" ∈ lw_tbl := by decide +kernel
theorem wn_8_39 : Cond.methodLinkNest RX8 39 yX7_init "OilWatch" ∈ lw_tbl := by decide +kernel
theorem wn_8_50 : Cond.methodLinkNest RX8 50 yX3_init "OilWatch" ∈ lw_tbl := by decide +kernel
theorem wn_8_61 : Cond.methodLinkNest RX8 61 yX4_init "OilWatch" ∈ lw_tbl := by decide +kernel
theorem wa_Skimmer : Cond.arrayOver (.object "OilWatch$Skimmer") ∈ lw_tbl := by decide +kernel
theorem wa_Slick : Cond.arrayOver (.object "OilWatch$Slick") ∈ lw_tbl := by decide +kernel
theorem wa_Ship : Cond.arrayOver (.object "OilWatch$Ship") ∈ lw_tbl := by decide +kernel
theorem k_arr {s : State} {args : Array Value} {ty : FieldType} (hty : ty = .int ∨ ty = .boolean) (h : (Cond.arrayClass ty).before args s = true) : ∃ cA : ClassId, ArrOfT s cA ty ∧ va_RA s cA ty := by
  obtain ⟨cA, kA, comp, h1, h2, h3⟩ := Cond.arrayClass_spec h
  refine ⟨cA, fun n z => ⟨fun k h => (by cases h), kA, h2, comp, h3⟩, ?_⟩
  rcases hty with rfl | rfl
  · exact h1
  · exact h1
theorem k_ref {s : State} {args : Array Value} {C : String} (h : (Cond.arrayOver (.object C)).before args s = true) : ∃ cA : ClassId, ArrOfT s cA (.object C) ∧ va_RA s cA (.object C) := by
  obtain ⟨comp, cA, kA, h1, h2, h3, h4, h5⟩ := Cond.arrayOver_spec h
  exact ⟨cA, fun n z => ⟨fun k h => (by cases h), kA, h3, comp, h4⟩, kA, comp, h3, h4, h1, h5⟩
theorem va_Psplit {D : va_G} {w1 w2 : va_W} {H : Heap} (h : va_P D vwCl (w1 ++ w2) H) : va_P D vwCl w1 H ∧ va_P D vwCl w2 H := ⟨fun k q hq => h k q (by rw [List.getElem?_append_left (List.getElem?_eq_some_iff.mp hq).1]; exact hq), fun k q hq => h (w1.length + k) q (by rw [List.getElem?_append_right (by omega), Nat.add_sub_cancel_left]; exact hq)⟩
theorem va_Dsplit {A : Nat → Prop} {w1 w2 : va_W} (h : va_D A (w1 ++ w2)) : va_D A w1 ∧ va_D A w2 ∧ ∀ (i j : Nat) (p q : Nat × va_E), w1[i]? = some p → w2[j]? = some q → p.1 ≠ q.1 := by
  have l1 : ∀ (k : Nat) (q : Nat × va_E), w1[k]? = some q → (w1 ++ w2)[k]? = some q := fun k q hq => by rw [List.getElem?_append_left (List.getElem?_eq_some_iff.mp hq).1]; exact hq
  have l2 : ∀ (k : Nat) (q : Nat × va_E), w2[k]? = some q → (w1 ++ w2)[w1.length + k]? = some q := fun k q hq => by rw [List.getElem?_append_right (by omega), Nat.add_sub_cancel_left]; exact hq
  refine ⟨⟨fun i j p q h1 h2 h3 => h.1 i j p q (l1 i p h1) (l1 j q h2) h3, fun k q hq => h.2 k q (l1 k q hq)⟩, ⟨fun i j p q h1 h2 h3 => ?_, fun k q hq => h.2 _ q (l2 k q hq)⟩, fun i j p q h1 h2 h3 => ?_⟩
  · have := h.1 _ _ p q (l2 i p h1) (l2 j q h2) h3
    omega
  · have := h.1 _ _ p q (l1 i p h1) (l2 j q h2) h3
    have := (List.getElem?_eq_some_iff.mp h1).1
    omega
theorem k_cls {s : State} {args : Array Value} (ht : ∀ w ∈ ojT, w.before args s = true) : ∀ k : Nat, ∃ x : ClassId × (Nat → Nat), ∀ q : vw_C, vwCl[k]? = some q → u_Kn s q.1 q.2.1 q.2.2 x.1 x.2 := by
  intro k
  by_cases hk : k < 10
  · rcases (show k = 0 ∨ k = 1 ∨ k = 2 ∨ k = 3 ∨ k = 4 ∨ k = 5 ∨ k = 6 ∨ k = 7 ∨ k = 8 ∨ k = 9 by omega) with rfl | rfl | rfl | rfl | rfl | rfl | rfl | rfl | rfl | rfl
    · obtain ⟨c, f, h⟩ := u_known (C := RX0) (T := TX0) (N := 4) (n := 4) ht inoX0 (ht _ wd_in0)
      exact ⟨(c, f), fun q hq => by cases hq; exact h⟩
    · obtain ⟨c, f, h⟩ := u_known (C := RX1) (T := TX1) (N := 2) (n := 2) ht inoX1 (ht _ wd_in1)
      exact ⟨(c, f), fun q hq => by cases hq; exact h⟩
    · obtain ⟨c, f, h⟩ := u_known (C := RX2) (T := TX2) (N := 1) (n := 1) ht inoX2 (ht _ wd_in2)
      exact ⟨(c, f), fun q hq => by cases hq; exact h⟩
    · obtain ⟨c, f, h⟩ := u_known (C := RX3) (T := TX3) (N := 5) (n := 5) ht inoX3 (ht _ wd_in3)
      exact ⟨(c, f), fun q hq => by cases hq; exact h⟩
    · obtain ⟨c, f, h⟩ := u_known (C := RX4) (T := TX4) (N := 3) (n := 3) ht inoX4 (ht _ wd_in4)
      exact ⟨(c, f), fun q hq => by cases hq; exact h⟩
    · obtain ⟨c, f, h⟩ := u_known (C := RX5) (T := TX5) (N := 6) (n := 6) ht inoX5 (ht _ wd_in5)
      exact ⟨(c, f), fun q hq => by cases hq; exact h⟩
    · obtain ⟨c, f, h⟩ := u_known (C := RX6) (T := TX6) (N := 1) (n := 1) ht inoX6 (ht _ wd_in6)
      exact ⟨(c, f), fun q hq => by cases hq; exact h⟩
    · obtain ⟨c, f, h⟩ := u_known (C := RX7) (T := TX7) (N := 4) (n := 4) ht inoX7 (ht _ wd_in7)
      exact ⟨(c, f), fun q hq => by cases hq; exact h⟩
    · obtain ⟨c, f, h⟩ := u_known (C := RX8) (T := TX8) (N := 14) (n := 14) ht inoX8 (ht _ wd_in8)
      exact ⟨(c, f), fun q hq => by cases hq; exact h⟩
    · obtain ⟨c, f, h⟩ := u_known (C := RX9) (T := TX9) (N := 36) (n := 36) ht inoX9 (ht _ wd_in9)
      exact ⟨(c, f), fun q hq => by cases hq; exact h⟩
  · exact ⟨(default, fun _ => 0), fun q hq => by
      have := (List.getElem?_eq_some_iff.mp hq).1
      exact absurd this (by show ¬ k < 10; omega)⟩
theorem whole_start {p : Program} {e : Env} {s : State} {m : MethodId} {below : List Frame} {meth : Method} {c : Code} (l : Launch) {b L : Nat} {xs : Nat → Int32} (hL : L ≤ 2560) (C0 : lw_At p s m meth c b L xs) : W p l e room_1 s m #[Value.ref b] below meth c s.heap [] 0 0 (lw_Z below #[Value.ref b] s) (entryFrame m ([Value.ref b] : List Value).toArray 4) := by
  obtain ⟨hx, hb, hr, hml, hown, hts, hX, hbl, hlocks, hgv⟩ := id C0
  have ht := ojT_sub hts
  have hA : ∀ q : Nat, s.heap.size ≤ q → (fun q : Nat => s.heap.size ≤ q) q := fun _ h => h
  have hown : s.vm.findClass RL = some m.cls := hown
  obtain ⟨cI, i1, i2⟩ := k_arr (Or.inl rfl) (ht _ wd_int)
  obtain ⟨cZ, z1, z2⟩ := k_arr (Or.inr rfl) (ht _ wd_bool)
  obtain ⟨cS, s1, s2⟩ := k_ref (hts _ wa_Ship)
  obtain ⟨cK, k1, k2⟩ := k_ref (hts _ wa_Skimmer)
  obtain ⟨cL, l1, l2⟩ := k_ref (hts _ wa_Slick)
  have hN : nwO s := ⟨va_Nw.of rfl (hts _ wn_8_11), va_Nw.of rfl (hts _ wn_8_25), va_Nw.of rfl (hts _ wn_1_17), va_Nw.of rfl (hts _ wn_8_39), va_Nw.of rfl (hts _ wn_8_50), va_Nw.of rfl (hts _ wn_8_61), va_AO.of (hts _ wa_Skimmer), va_AO.of (hts _ wa_Slick), va_AO.of (hts _ wa_Ship)⟩
  obtain ⟨D, hD0⟩ : ∃ D : va_G, ∀ (k : Nat) (q : vw_C), vwCl[k]? = some q → u_Kn s q.1 q.2.1 q.2.2 (D.1 k) (D.2 k) := ⟨(fun k => (Classical.choose (k_cls ht k)).1, fun k => (Classical.choose (k_cls ht k)).2), fun k q hq => Classical.choose_spec (k_cls ht k) q hq⟩
  obtain ⟨E, hE⟩ : ∃ E : ojE, E = (cI, cZ, cS, cK, cL) := ⟨_, rfl⟩
  have hK : va_K D vwCl (ojTy E) s := ⟨hD0, fun k q hq => by
    subst hE
    have hk : k < 5 := (List.getElem?_eq_some_iff.mp hq).1
    rcases (show k = 0 ∨ k = 1 ∨ k = 2 ∨ k = 3 ∨ k = 4 by omega) with rfl | rfl | rfl | rfl | rfl
    · cases hq; exact ⟨i1, i2⟩
    · cases hq; exact ⟨z1, z2⟩
    · cases hq; exact ⟨s1, s2⟩
    · cases hq; exact ⟨k1, k2⟩
    · cases hq; exact ⟨l1, l2⟩⟩
  have hS : va_S (fun q : Nat => s.heap.size ≤ q) s.heap s.heap [] := va_S.rf
  have hP : va_P D vwCl [] s.heap := fun k q h => by simp at h
  have hD : va_D (fun q : Nat => s.heap.size ≤ q) [] := ⟨fun i j p q h => by simp at h, fun k q h => by simp at h⟩
  have hl := lv_entry ([.ref b]) (n := 4) (Nat.le_of_ble_eq_true rfl)
  rw [lg_entry_eq]
  generalize (lg_sl ([.ref b]) ++ List.replicate (4 - (lg_sl ([.ref b])).length) Slot.unset).toArray = ls at hl ⊢
  have hl : lv_has ls 4 [(0, .ref b)] := hl
  refine va_new (ci := 8) (fs := [.null, .null, .null, .null, .null, .null, .null, .null, .null, .int 0, .int 0, .int 0, .int 0, .int 0]) (C := RX8) (T := TX8) (N := 14) hx hb ht inoX8 tyX8 tyX8_ok hown (ht _ wd_lc7) (ht _ wd_in8) (ht _ wd_it8) hK hP hD hS hA rfl wd_df8 (Nat.le_of_ble_eq_true rfl) (Nat.le_of_ble_eq_true rfl) dL_law_0 (fun x0 H hP hD hS => ?_)
  refine lv_dup hx hb dL_law_3 rfl ?_
  refine oj_ctor (E := E) (ws := []) hx hb hml hown ht hK hN hP hD hS hA hl.1 (Or.inl (ht _ wd_lk9)) wd_it8 wd_cd8 wd_im8 wd_dd8 rfl i_X8 (by decide) (Nat.le_of_ble_eq_true rfl) dL_law_4 (by constructor <;> exact Nat.le_of_ble_eq_true rfl) (fun w H locs hpost hP hD hS => ?_)
  obtain ⟨q1, q2, q3, q4, q5, q6, fB, gB, q7, q8, q9, q10, q11, q12, q13, q14, q15, q16, q17, q18, q19, q20, q21, q22, q23, q24, q25, q26, q27, q28, q29, q30, q31, q32, q33, q34, q35, q36, q37, q38, q39, q40, q41, q42, q43, q44, q45, q46, hfB, hgB, rfl⟩ := hpost
  obtain ⟨hPO, hDO⟩ := mk_wO (E := E) hP hD
  generalize hadE : adL [x0, q1, q2, q3, q4, q5, q6, q7, q8, q9, q10, q18, q28, q29, q46, q11, q12, q13, q14, q15, q19, q22, q25, q16, q20, q23, q26, q17, q21, q24, q27, q30, q32, q34, q36, q38, q40, q42, q44, q31, q33, q35, q37, q39, q41, q43, q45] = ad at hPO hDO
  have had0 : x0 = ad 0 := by rw [← hadE]; rfl
  have hR0 := R_0 hfB hgB
  generalize sg0 fB gB = σ at hPO hDO hR0
  refine lv_astore_n (lv' := [(1, .ref x0), (0, .ref b)]) hx hb dL_law_7 rfl hl (by decide) rfl (fun ls hl => ?_)
  refine va_new (ci := 9) (fs := [.int 0, .null, .null, .null, .null, .null, .null, .null, .null, .int 0, .int 0, .int 0, .int 0, .int 0, .int 0, .null, .null, .null, .null, .null, .null, .null, .null, .int 0, .null, .null, .null, .null, .null, .null, .int 0, .int 0, .null, .null, .null, .null]) (C := RX9) (T := TX9) (N := 36) hx hb ht inoX9 tyX9 tyX9_ok hown (ht _ wd_lc10) (ht _ wd_in9) (ht _ wd_it9) hK hPO hDO hS hA rfl wd_df9 (Nat.le_of_ble_eq_true rfl) (Nat.le_of_ble_eq_true rfl) dL_law_8 (fun m0 H hP hD hS => ?_)
  refine lv_dup hx hb dL_law_11 rfl ?_
  refine oj_ctor (E := E) (ws := wO_ E ad σ) hx hb hml hown ht hK hN hP hD hS hA hl.1 (Or.inl (ht _ wd_lk12)) wd_it9 wd_cd9 wd_im9 wd_dd9 rfl i_X9 (by decide) (Nat.le_of_ble_eq_true rfl) dL_law_12 (by constructor <;> exact Nat.le_of_ble_eq_true rfl) (fun w H locs hpost hP hD hS => ?_)
  obtain ⟨m1, m2, m3, m4, m5, m6, m7, m8, m9, m10, m11, m12, m13, m14, m15, m16, m17, m18, m19, m20, m21, m22, m23, m24, m25, m26, rfl⟩ := hpost
  obtain ⟨hPO, hPM0⟩ := va_Psplit hP
  obtain ⟨hDO, hDM0, hnn⟩ := va_Dsplit hD
  obtain ⟨hPM, hDM⟩ := mk_wM (E := E) hPM0 hDM0
  have hne : ∀ j k, j < 47 → k < 27 → ad j ≠ adL [m0, m1, m2, m3, m4, m5, m6, m7, m8, m9, m10, m11, m12, m13, m14, m15, m16, m17, m18, m19, m20, m21, m22, m23, m24, m25, m26] k := fun j k hj hk => by
    obtain ⟨e, he⟩ : ∃ e, (((m0, .inr (9, [.int 0, .ref m1, .ref m2, .ref m3, .ref m4, .ref m5, .ref m6, .ref m7, .ref m8, .int 0, .int (-1), .int 0, .int 0, .int 0, .int 0, .ref m9, .ref m10, .ref m11, .ref m12, .ref m13, .ref m14, .ref m15, .ref m16, .int 0, .ref m17, .ref m18, .ref m19, .ref m20, .ref m21, .ref m22, .int 0, .int 0, .ref m23, .ref m24, .ref m25, .ref m26])) :: (m1, .inl (E.1, 96, .inl (fun _ => 0))) :: (m2, .inl (E.1, 96, .inl (fun _ => 0))) :: (m3, .inl (E.1, 1503, .inl (fun _ => 0))) :: (m4, .inl (E.1, 1503, .inl (fun _ => 0))) :: (m5, .inl (E.2.1, 20, .inl (fun _ => 0))) :: (m6, .inl (E.1, 20, .inl (fun _ => 0))) :: (m7, .inl (E.1, 20, .inl (fun _ => 0))) :: (m8, .inl (E.1, 20, .inl (fun _ => 0))) :: (m9, .inl (E.1, 4, .inl (fun _ => 0))) :: (m10, .inl (E.1, 4, .inl (fun _ => 0))) :: (m11, .inl (E.1, 4, .inl (fun _ => 0))) :: (m12, .inl (E.1, 4, .inl (fun _ => 0))) :: (m13, .inl (E.1, 4, .inl (fun _ => 0))) :: (m14, .inl (E.1, 4, .inl (fun _ => 0))) :: (m15, .inl (E.1, 4, .inl (fun _ => 0))) :: (m16, .inl (E.2.1, 4, .inl (fun _ => 0))) :: (m17, .inl (E.1, 8, .inl (fun _ => 0))) :: (m18, .inl (E.1, 8, .inl (fun _ => 0))) :: (m19, .inl (E.1, 8, .inl (fun _ => 0))) :: (m20, .inl (E.1, 4, .inl (fun _ => 0))) :: (m21, .inl (E.1, 96, .inl (fun _ => 0))) :: (m22, .inl (E.1, 448, .inl (fun _ => 0))) :: (m23, .inl (E.2.1, 96, .inl (fun _ => 0))) :: (m24, .inl (E.2.1, 96, .inl (fun _ => 0))) :: (m25, .inl (E.1, 4, .inl (fun _ => 0))) :: (m26, .inl (E.1, 4, .inl (fun _ => 0))) :: []) : va_W)[k]? = some (adL [m0, m1, m2, m3, m4, m5, m6, m7, m8, m9, m10, m11, m12, m13, m14, m15, m16, m17, m18, m19, m20, m21, m22, m23, m24, m25, m26] k, e) := by
      rcases (show k = 0 ∨ k = 1 ∨ k = 2 ∨ k = 3 ∨ k = 4 ∨ k = 5 ∨ k = 6 ∨ k = 7 ∨ k = 8 ∨ k = 9 ∨ k = 10 ∨ k = 11 ∨ k = 12 ∨ k = 13 ∨ k = 14 ∨ k = 15 ∨ k = 16 ∨ k = 17 ∨ k = 18 ∨ k = 19 ∨ k = 20 ∨ k = 21 ∨ k = 22 ∨ k = 23 ∨ k = 24 ∨ k = 25 ∨ k = 26 by omega) with rfl | rfl | rfl | rfl | rfl | rfl | rfl | rfl | rfl | rfl | rfl | rfl | rfl | rfl | rfl | rfl | rfl | rfl | rfl | rfl | rfl | rfl | rfl | rfl | rfl | rfl | rfl <;> exact ⟨_, rfl⟩
    exact hnn j k _ _ (wO_at hj) he
  generalize had2E : adL [m0, m1, m2, m3, m4, m5, m6, m7, m8, m9, m10, m11, m12, m13, m14, m15, m16, m17, m18, m19, m20, m21, m22, m23, m24, m25, m26] = ad2 at hPM hDM hne
  have had20 : m0 = ad2 0 := by rw [← had2E]; rfl
  refine lv_astore_n (lv' := [(2, .ref m0), (1, .ref x0), (0, .ref b)]) hx hb dL_law_15 rfl hl (by decide) rfl (fun ls hl => ?_)
  refine lv_iconst (v := 0) hx hb dL_law_16 (by decide) ?_
  refine lv_istore_n (lv' := [(3, .int 0), (2, .ref m0), (1, .ref x0), (0, .ref b)]) hx hb dL_law_17 rfl hl (by decide) rfl (fun ls hl => ?_)
  refine W.widen (k := 600000) (n := 7302250) (by decide) (by decide) ?_
  rw [had0, had20] at hl
  exact law_loop hL C0 ⟨hK, hne⟩ (L + 1) 0 (by omega) (by omega) σ ta0 H locs ls ⟨hR0, hPO, hPM, hDO, hDM, hS, lv_sub hl [3, 2, 1, 0] rfl⟩

def adL (l : List Nat) (k : Nat) : Nat := l.getD k 0
def sg0 (f g : Nat → Int32) : ojS := fun k => if k = 4 then f else if k = 6 then g else fun _ => 0
def ta0 : ojS := fun k => if k = 0 then (fun j => if j = 10 then -1 else 0) else fun _ => 0
theorem sg0_ne {f g : Nat → Int32} {k : Nat} (h1 : k ≠ 4) (h2 : k ≠ 6) : sg0 f g k = fun _ => 0 := by unfold sg0; rw [if_neg h1, if_neg h2]
theorem ta0_ne {k : Nat} (h : k ≠ 0) : ta0 k = fun _ => 0 := if_neg h
theorem cell_cong {D : va_G} {a : Nat} {cA : ClassId} {n : Nat} {f g : Nat → Option Nat} {H : Heap} (h : va_at D vwCl (a, .inl (cA, n, .inr (.inr (.inr (.inr f))))) H) (e : ∀ j, j < n → f j = g j) : va_at D vwCl (a, .inl (cA, n, .inr (.inr (.inr (.inr g))))) H := by
  have e2 : vp_cell cA (n, .inr (.inr (.inr (.inr f)))) = vp_cell cA (n, .inr (.inr (.inr (.inr g)))) := by
    rw [vp_cell_q, vp_cell_q]
    unfold arrV
    congr 1
    congr 1
    funext j
    exact congrArg va_rf (e j.val j.isLt)
  show H[a]? = some (vp_cell cA (n, .inr (.inr (.inr (.inr g)))))
  rw [← e2]; exact h
theorem oj_perm {ws w2 : va_W} {A : Nat → Prop} (n : Nat) (π : Nat → Nat) (hinj : ∀ i, i < n → ∀ j, j < n → (π i ≠ π j ∨ i = j)) (h : ∀ (k : Nat) (q : Nat × va_E), w2[k]? = some q → k < n ∧ ∃ e, ws[π k]? = some (q.1, e)) (hD : va_D A ws) : va_D A w2 := by
  refine ⟨fun i j p q hi hj hpq => ?_, fun k q hk => ?_⟩
  · obtain ⟨i1, e1, h1⟩ := h i p hi
    obtain ⟨j1, e2, h2⟩ := h j q hj
    have := hD.1 _ _ _ _ h1 h2 hpq
    rcases hinj i i1 j j1 with z | z
    · exact absurd this z
    · exact z
  · obtain ⟨-, e, h1⟩ := h k q hk
    exact hD.2 (π k) (q.1, e) h1
theorem mk_wO {D : va_G} {E : ojE} {A : Nat → Prop} {H : Heap} {h0 : Nat} {fB gB : Nat → Int32} {q1 q2 q3 q4 q5 q6 q7 q8 q9 q10 q11 q12 q13 q14 q15 q16 q17 q18 q19 q20 q21 q22 q23 q24 q25 q26 q27 q28 q29 q30 q31 q32 q33 q34 q35 q36 q37 q38 q39 q40 q41 q42 q43 q44 q45 q46 : Nat} (hP : va_P D vwCl ((h0, .inr (8, [.ref q1, .ref q3, .ref q7, .ref q9, .ref q15, .ref q18, .ref q28, .ref q29, .ref q46, .int 0, .int 0, .int 0, .int 0, .int 0])) :: (q1, .inr (2, [.ref q2])) :: (q2, .inl (E.1, 96, .inl (fun _ => 0))) :: (q3, .inr (0, [.ref q4, .ref q5, .ref q6, .int 0])) :: (q4, .inl (E.1, 20, .inl fB)) :: (q5, .inl (E.1, 20, .inl (fun _ => 0))) :: (q6, .inl (E.1, 480, .inl gB)) :: (q7, .inr (6, [.ref q8])) :: (q8, .inl (E.1, 1503, .inl (fun _ => 0))) :: (q9, .inr (1, [.ref q10, .int 0])) :: (q10, .inl (E.2.2.2.1, 4, .inr (.inr (.inr (.inr (va_up (va_up (va_up (va_up (fun _ => none) 0 (some q11)) 1 (some q12)) 2 (some q13)) 3 (some q14))))))) :: (q11, .inr (5, [.int 0, .int 0, .int 0, .int 0, .int 0, .int 0])) :: (q12, .inr (5, [.int 0, .int 0, .int 0, .int 0, .int 0, .int 0])) :: (q13, .inr (5, [.int 0, .int 0, .int 0, .int 0, .int 0, .int 0])) :: (q14, .inr (5, [.int 0, .int 0, .int 0, .int 0, .int 0, .int 0])) :: (q15, .inr (7, [.ref q16, .ref q17, .int 0, .int 0])) :: (q16, .inl (E.1, 96, .inl (fun _ => 0))) :: (q17, .inl (E.1, 4, .inl (fun _ => 0))) :: (q18, .inl (E.2.2.2.2, 3, .inr (.inr (.inr (.inr (va_up (va_up (va_up (fun _ => none) 0 (some q19)) 1 (some q22)) 2 (some q25))))))) :: (q19, .inr (7, [.ref q20, .ref q21, .int 0, .int 0])) :: (q20, .inl (E.1, 96, .inl (fun _ => 0))) :: (q21, .inl (E.1, 4, .inl (fun _ => 0))) :: (q22, .inr (7, [.ref q23, .ref q24, .int 0, .int 0])) :: (q23, .inl (E.1, 96, .inl (fun _ => 0))) :: (q24, .inl (E.1, 4, .inl (fun _ => 0))) :: (q25, .inr (7, [.ref q26, .ref q27, .int 0, .int 0])) :: (q26, .inl (E.1, 96, .inl (fun _ => 0))) :: (q27, .inl (E.1, 4, .inl (fun _ => 0))) :: (q28, .inr (3, [.int 0, .int 0, .int 0, .int 0, .int 0])) :: (q29, .inl (E.2.2.1, 8, .inr (.inr (.inr (.inr (va_up (va_up (va_up (va_up (va_up (va_up (va_up (va_up (fun _ => none) 0 (some q30)) 1 (some q32)) 2 (some q34)) 3 (some q36)) 4 (some q38)) 5 (some q40)) 6 (some q42)) 7 (some q44))))))) :: (q30, .inr (4, [.int 0, .int 0, .ref q31])) :: (q31, .inl (E.2.1, 96, .inl (fun _ => 0))) :: (q32, .inr (4, [.int 0, .int 0, .ref q33])) :: (q33, .inl (E.2.1, 96, .inl (fun _ => 0))) :: (q34, .inr (4, [.int 0, .int 0, .ref q35])) :: (q35, .inl (E.2.1, 96, .inl (fun _ => 0))) :: (q36, .inr (4, [.int 0, .int 0, .ref q37])) :: (q37, .inl (E.2.1, 96, .inl (fun _ => 0))) :: (q38, .inr (4, [.int 0, .int 0, .ref q39])) :: (q39, .inl (E.2.1, 96, .inl (fun _ => 0))) :: (q40, .inr (4, [.int 0, .int 0, .ref q41])) :: (q41, .inl (E.2.1, 96, .inl (fun _ => 0))) :: (q42, .inr (4, [.int 0, .int 0, .ref q43])) :: (q43, .inl (E.2.1, 96, .inl (fun _ => 0))) :: (q44, .inr (4, [.int 0, .int 0, .ref q45])) :: (q45, .inl (E.2.1, 96, .inl (fun _ => 0))) :: (q46, .inl (E.1, 4, .inl (fun _ => 0))) :: []) H) (hD : va_D A ((h0, .inr (8, [.ref q1, .ref q3, .ref q7, .ref q9, .ref q15, .ref q18, .ref q28, .ref q29, .ref q46, .int 0, .int 0, .int 0, .int 0, .int 0])) :: (q1, .inr (2, [.ref q2])) :: (q2, .inl (E.1, 96, .inl (fun _ => 0))) :: (q3, .inr (0, [.ref q4, .ref q5, .ref q6, .int 0])) :: (q4, .inl (E.1, 20, .inl fB)) :: (q5, .inl (E.1, 20, .inl (fun _ => 0))) :: (q6, .inl (E.1, 480, .inl gB)) :: (q7, .inr (6, [.ref q8])) :: (q8, .inl (E.1, 1503, .inl (fun _ => 0))) :: (q9, .inr (1, [.ref q10, .int 0])) :: (q10, .inl (E.2.2.2.1, 4, .inr (.inr (.inr (.inr (va_up (va_up (va_up (va_up (fun _ => none) 0 (some q11)) 1 (some q12)) 2 (some q13)) 3 (some q14))))))) :: (q11, .inr (5, [.int 0, .int 0, .int 0, .int 0, .int 0, .int 0])) :: (q12, .inr (5, [.int 0, .int 0, .int 0, .int 0, .int 0, .int 0])) :: (q13, .inr (5, [.int 0, .int 0, .int 0, .int 0, .int 0, .int 0])) :: (q14, .inr (5, [.int 0, .int 0, .int 0, .int 0, .int 0, .int 0])) :: (q15, .inr (7, [.ref q16, .ref q17, .int 0, .int 0])) :: (q16, .inl (E.1, 96, .inl (fun _ => 0))) :: (q17, .inl (E.1, 4, .inl (fun _ => 0))) :: (q18, .inl (E.2.2.2.2, 3, .inr (.inr (.inr (.inr (va_up (va_up (va_up (fun _ => none) 0 (some q19)) 1 (some q22)) 2 (some q25))))))) :: (q19, .inr (7, [.ref q20, .ref q21, .int 0, .int 0])) :: (q20, .inl (E.1, 96, .inl (fun _ => 0))) :: (q21, .inl (E.1, 4, .inl (fun _ => 0))) :: (q22, .inr (7, [.ref q23, .ref q24, .int 0, .int 0])) :: (q23, .inl (E.1, 96, .inl (fun _ => 0))) :: (q24, .inl (E.1, 4, .inl (fun _ => 0))) :: (q25, .inr (7, [.ref q26, .ref q27, .int 0, .int 0])) :: (q26, .inl (E.1, 96, .inl (fun _ => 0))) :: (q27, .inl (E.1, 4, .inl (fun _ => 0))) :: (q28, .inr (3, [.int 0, .int 0, .int 0, .int 0, .int 0])) :: (q29, .inl (E.2.2.1, 8, .inr (.inr (.inr (.inr (va_up (va_up (va_up (va_up (va_up (va_up (va_up (va_up (fun _ => none) 0 (some q30)) 1 (some q32)) 2 (some q34)) 3 (some q36)) 4 (some q38)) 5 (some q40)) 6 (some q42)) 7 (some q44))))))) :: (q30, .inr (4, [.int 0, .int 0, .ref q31])) :: (q31, .inl (E.2.1, 96, .inl (fun _ => 0))) :: (q32, .inr (4, [.int 0, .int 0, .ref q33])) :: (q33, .inl (E.2.1, 96, .inl (fun _ => 0))) :: (q34, .inr (4, [.int 0, .int 0, .ref q35])) :: (q35, .inl (E.2.1, 96, .inl (fun _ => 0))) :: (q36, .inr (4, [.int 0, .int 0, .ref q37])) :: (q37, .inl (E.2.1, 96, .inl (fun _ => 0))) :: (q38, .inr (4, [.int 0, .int 0, .ref q39])) :: (q39, .inl (E.2.1, 96, .inl (fun _ => 0))) :: (q40, .inr (4, [.int 0, .int 0, .ref q41])) :: (q41, .inl (E.2.1, 96, .inl (fun _ => 0))) :: (q42, .inr (4, [.int 0, .int 0, .ref q43])) :: (q43, .inl (E.2.1, 96, .inl (fun _ => 0))) :: (q44, .inr (4, [.int 0, .int 0, .ref q45])) :: (q45, .inl (E.2.1, 96, .inl (fun _ => 0))) :: (q46, .inl (E.1, 4, .inl (fun _ => 0))) :: [])) : va_P D vwCl (wO_ E (adL [h0, q1, q2, q3, q4, q5, q6, q7, q8, q9, q10, q18, q28, q29, q46, q11, q12, q13, q14, q15, q19, q22, q25, q16, q20, q23, q26, q17, q21, q24, q27, q30, q32, q34, q36, q38, q40, q42, q44, q31, q33, q35, q37, q39, q41, q43, q45]) (sg0 fB gB)) H ∧ va_D A (wO_ E (adL [h0, q1, q2, q3, q4, q5, q6, q7, q8, q9, q10, q18, q28, q29, q46, q11, q12, q13, q14, q15, q19, q22, q25, q16, q20, q23, q26, q17, q21, q24, q27, q30, q32, q34, q36, q38, q40, q42, q44, q31, q33, q35, q37, q39, q41, q43, q45]) (sg0 fB gB)) := by
  refine ⟨fun k q hq => ?_, oj_perm 47 (fun k => ([0, 1, 2, 3, 4, 5, 6, 7, 8, 9, 10, 18, 28, 29, 46, 11, 12, 13, 14, 15, 19, 22, 25, 16, 20, 23, 26, 17, 21, 24, 27, 30, 32, 34, 36, 38, 40, 42, 44, 31, 33, 35, 37, 39, 41, 43, 45] : List Nat).getD k 0) (by decide +kernel) (fun k q hq => ?_) hD⟩
  · obtain ⟨hk, -⟩ := wO_ad hq
    rw [wO_at hk] at hq
    cases hq
    rcases (show k = 0 ∨ k = 1 ∨ k = 2 ∨ k = 3 ∨ k = 4 ∨ k = 5 ∨ k = 6 ∨ k = 7 ∨ k = 8 ∨ k = 9 ∨ k = 10 ∨ k = 11 ∨ k = 12 ∨ k = 13 ∨ k = 14 ∨ k = 15 ∨ k = 16 ∨ k = 17 ∨ k = 18 ∨ k = 19 ∨ k = 20 ∨ k = 21 ∨ k = 22 ∨ k = 23 ∨ k = 24 ∨ k = 25 ∨ k = 26 ∨ k = 27 ∨ k = 28 ∨ k = 29 ∨ k = 30 ∨ k = 31 ∨ k = 32 ∨ k = 33 ∨ k = 34 ∨ k = 35 ∨ k = 36 ∨ k = 37 ∨ k = 38 ∨ k = 39 ∨ k = 40 ∨ k = 41 ∨ k = 42 ∨ k = 43 ∨ k = 44 ∨ k = 45 ∨ k = 46 by omega) with rfl | rfl | rfl | rfl | rfl | rfl | rfl | rfl | rfl | rfl | rfl | rfl | rfl | rfl | rfl | rfl | rfl | rfl | rfl | rfl | rfl | rfl | rfl | rfl | rfl | rfl | rfl | rfl | rfl | rfl | rfl | rfl | rfl | rfl | rfl | rfl | rfl | rfl | rfl | rfl | rfl | rfl | rfl | rfl | rfl | rfl | rfl
    · exact hP 0 _ rfl
    · exact hP 1 _ rfl
    · exact hP 2 _ rfl
    · exact hP 3 _ rfl
    · exact hP 4 _ rfl
    · exact hP 5 _ rfl
    · exact hP 6 _ rfl
    · exact hP 7 _ rfl
    · exact hP 8 _ rfl
    · exact hP 9 _ rfl
    · exact cell_cong (hP 10 _ rfl) (fun j hj => by rcases (show j = 0 ∨ j = 1 ∨ j = 2 ∨ j = 3 by omega) with rfl | rfl | rfl | rfl <;> rfl)
    · exact cell_cong (hP 18 _ rfl) (fun j hj => by rcases (show j = 0 ∨ j = 1 ∨ j = 2 by omega) with rfl | rfl | rfl <;> rfl)
    · exact hP 28 _ rfl
    · exact cell_cong (hP 29 _ rfl) (fun j hj => by rcases (show j = 0 ∨ j = 1 ∨ j = 2 ∨ j = 3 ∨ j = 4 ∨ j = 5 ∨ j = 6 ∨ j = 7 by omega) with rfl | rfl | rfl | rfl | rfl | rfl | rfl | rfl <;> rfl)
    · exact hP 46 _ rfl
    · exact hP 11 _ rfl
    · exact hP 12 _ rfl
    · exact hP 13 _ rfl
    · exact hP 14 _ rfl
    · exact hP 15 _ rfl
    · exact hP 19 _ rfl
    · exact hP 22 _ rfl
    · exact hP 25 _ rfl
    · exact hP 16 _ rfl
    · exact hP 20 _ rfl
    · exact hP 23 _ rfl
    · exact hP 26 _ rfl
    · exact hP 17 _ rfl
    · exact hP 21 _ rfl
    · exact hP 24 _ rfl
    · exact hP 27 _ rfl
    · exact hP 30 _ rfl
    · exact hP 32 _ rfl
    · exact hP 34 _ rfl
    · exact hP 36 _ rfl
    · exact hP 38 _ rfl
    · exact hP 40 _ rfl
    · exact hP 42 _ rfl
    · exact hP 44 _ rfl
    · exact hP 31 _ rfl
    · exact hP 33 _ rfl
    · exact hP 35 _ rfl
    · exact hP 37 _ rfl
    · exact hP 39 _ rfl
    · exact hP 41 _ rfl
    · exact hP 43 _ rfl
    · exact hP 45 _ rfl
  · obtain ⟨hk, -⟩ := wO_ad hq
    rw [wO_at hk] at hq
    cases hq
    refine ⟨hk, ?_⟩
    rcases (show k = 0 ∨ k = 1 ∨ k = 2 ∨ k = 3 ∨ k = 4 ∨ k = 5 ∨ k = 6 ∨ k = 7 ∨ k = 8 ∨ k = 9 ∨ k = 10 ∨ k = 11 ∨ k = 12 ∨ k = 13 ∨ k = 14 ∨ k = 15 ∨ k = 16 ∨ k = 17 ∨ k = 18 ∨ k = 19 ∨ k = 20 ∨ k = 21 ∨ k = 22 ∨ k = 23 ∨ k = 24 ∨ k = 25 ∨ k = 26 ∨ k = 27 ∨ k = 28 ∨ k = 29 ∨ k = 30 ∨ k = 31 ∨ k = 32 ∨ k = 33 ∨ k = 34 ∨ k = 35 ∨ k = 36 ∨ k = 37 ∨ k = 38 ∨ k = 39 ∨ k = 40 ∨ k = 41 ∨ k = 42 ∨ k = 43 ∨ k = 44 ∨ k = 45 ∨ k = 46 by omega) with rfl | rfl | rfl | rfl | rfl | rfl | rfl | rfl | rfl | rfl | rfl | rfl | rfl | rfl | rfl | rfl | rfl | rfl | rfl | rfl | rfl | rfl | rfl | rfl | rfl | rfl | rfl | rfl | rfl | rfl | rfl | rfl | rfl | rfl | rfl | rfl | rfl | rfl | rfl | rfl | rfl | rfl | rfl | rfl | rfl | rfl | rfl <;> exact ⟨_, rfl⟩
theorem mk_wM {D : va_G} {E : ojE} {A : Nat → Prop} {H : Heap} {h0 : Nat} {q1 q2 q3 q4 q5 q6 q7 q8 q9 q10 q11 q12 q13 q14 q15 q16 q17 q18 q19 q20 q21 q22 q23 q24 q25 q26 : Nat} (hP : va_P D vwCl ((h0, .inr (9, [.int 0, .ref q1, .ref q2, .ref q3, .ref q4, .ref q5, .ref q6, .ref q7, .ref q8, .int 0, .int (-1), .int 0, .int 0, .int 0, .int 0, .ref q9, .ref q10, .ref q11, .ref q12, .ref q13, .ref q14, .ref q15, .ref q16, .int 0, .ref q17, .ref q18, .ref q19, .ref q20, .ref q21, .ref q22, .int 0, .int 0, .ref q23, .ref q24, .ref q25, .ref q26])) :: (q1, .inl (E.1, 96, .inl (fun _ => 0))) :: (q2, .inl (E.1, 96, .inl (fun _ => 0))) :: (q3, .inl (E.1, 1503, .inl (fun _ => 0))) :: (q4, .inl (E.1, 1503, .inl (fun _ => 0))) :: (q5, .inl (E.2.1, 20, .inl (fun _ => 0))) :: (q6, .inl (E.1, 20, .inl (fun _ => 0))) :: (q7, .inl (E.1, 20, .inl (fun _ => 0))) :: (q8, .inl (E.1, 20, .inl (fun _ => 0))) :: (q9, .inl (E.1, 4, .inl (fun _ => 0))) :: (q10, .inl (E.1, 4, .inl (fun _ => 0))) :: (q11, .inl (E.1, 4, .inl (fun _ => 0))) :: (q12, .inl (E.1, 4, .inl (fun _ => 0))) :: (q13, .inl (E.1, 4, .inl (fun _ => 0))) :: (q14, .inl (E.1, 4, .inl (fun _ => 0))) :: (q15, .inl (E.1, 4, .inl (fun _ => 0))) :: (q16, .inl (E.2.1, 4, .inl (fun _ => 0))) :: (q17, .inl (E.1, 8, .inl (fun _ => 0))) :: (q18, .inl (E.1, 8, .inl (fun _ => 0))) :: (q19, .inl (E.1, 8, .inl (fun _ => 0))) :: (q20, .inl (E.1, 4, .inl (fun _ => 0))) :: (q21, .inl (E.1, 96, .inl (fun _ => 0))) :: (q22, .inl (E.1, 448, .inl (fun _ => 0))) :: (q23, .inl (E.2.1, 96, .inl (fun _ => 0))) :: (q24, .inl (E.2.1, 96, .inl (fun _ => 0))) :: (q25, .inl (E.1, 4, .inl (fun _ => 0))) :: (q26, .inl (E.1, 4, .inl (fun _ => 0))) :: []) H) (hD : va_D A ((h0, .inr (9, [.int 0, .ref q1, .ref q2, .ref q3, .ref q4, .ref q5, .ref q6, .ref q7, .ref q8, .int 0, .int (-1), .int 0, .int 0, .int 0, .int 0, .ref q9, .ref q10, .ref q11, .ref q12, .ref q13, .ref q14, .ref q15, .ref q16, .int 0, .ref q17, .ref q18, .ref q19, .ref q20, .ref q21, .ref q22, .int 0, .int 0, .ref q23, .ref q24, .ref q25, .ref q26])) :: (q1, .inl (E.1, 96, .inl (fun _ => 0))) :: (q2, .inl (E.1, 96, .inl (fun _ => 0))) :: (q3, .inl (E.1, 1503, .inl (fun _ => 0))) :: (q4, .inl (E.1, 1503, .inl (fun _ => 0))) :: (q5, .inl (E.2.1, 20, .inl (fun _ => 0))) :: (q6, .inl (E.1, 20, .inl (fun _ => 0))) :: (q7, .inl (E.1, 20, .inl (fun _ => 0))) :: (q8, .inl (E.1, 20, .inl (fun _ => 0))) :: (q9, .inl (E.1, 4, .inl (fun _ => 0))) :: (q10, .inl (E.1, 4, .inl (fun _ => 0))) :: (q11, .inl (E.1, 4, .inl (fun _ => 0))) :: (q12, .inl (E.1, 4, .inl (fun _ => 0))) :: (q13, .inl (E.1, 4, .inl (fun _ => 0))) :: (q14, .inl (E.1, 4, .inl (fun _ => 0))) :: (q15, .inl (E.1, 4, .inl (fun _ => 0))) :: (q16, .inl (E.2.1, 4, .inl (fun _ => 0))) :: (q17, .inl (E.1, 8, .inl (fun _ => 0))) :: (q18, .inl (E.1, 8, .inl (fun _ => 0))) :: (q19, .inl (E.1, 8, .inl (fun _ => 0))) :: (q20, .inl (E.1, 4, .inl (fun _ => 0))) :: (q21, .inl (E.1, 96, .inl (fun _ => 0))) :: (q22, .inl (E.1, 448, .inl (fun _ => 0))) :: (q23, .inl (E.2.1, 96, .inl (fun _ => 0))) :: (q24, .inl (E.2.1, 96, .inl (fun _ => 0))) :: (q25, .inl (E.1, 4, .inl (fun _ => 0))) :: (q26, .inl (E.1, 4, .inl (fun _ => 0))) :: [])) : va_P D vwCl (wM_ E (adL [h0, q1, q2, q3, q4, q5, q6, q7, q8, q9, q10, q11, q12, q13, q14, q15, q16, q17, q18, q19, q20, q21, q22, q23, q24, q25, q26]) ta0) H ∧ va_D A (wM_ E (adL [h0, q1, q2, q3, q4, q5, q6, q7, q8, q9, q10, q11, q12, q13, q14, q15, q16, q17, q18, q19, q20, q21, q22, q23, q24, q25, q26]) ta0) := by
  refine ⟨fun k q hq => ?_, oj_perm 27 (fun k => k) (fun i _ j _ => by omega) (fun k q hq => ?_) hD⟩
  · obtain ⟨hk, -⟩ := wM_ad hq
    rw [wM_at hk] at hq
    cases hq
    rcases (show k = 0 ∨ k = 1 ∨ k = 2 ∨ k = 3 ∨ k = 4 ∨ k = 5 ∨ k = 6 ∨ k = 7 ∨ k = 8 ∨ k = 9 ∨ k = 10 ∨ k = 11 ∨ k = 12 ∨ k = 13 ∨ k = 14 ∨ k = 15 ∨ k = 16 ∨ k = 17 ∨ k = 18 ∨ k = 19 ∨ k = 20 ∨ k = 21 ∨ k = 22 ∨ k = 23 ∨ k = 24 ∨ k = 25 ∨ k = 26 by omega) with rfl | rfl | rfl | rfl | rfl | rfl | rfl | rfl | rfl | rfl | rfl | rfl | rfl | rfl | rfl | rfl | rfl | rfl | rfl | rfl | rfl | rfl | rfl | rfl | rfl | rfl | rfl
    · exact hP 0 _ rfl
    · exact hP 1 _ rfl
    · exact hP 2 _ rfl
    · exact hP 3 _ rfl
    · exact hP 4 _ rfl
    · exact hP 5 _ rfl
    · exact hP 6 _ rfl
    · exact hP 7 _ rfl
    · exact hP 8 _ rfl
    · exact hP 9 _ rfl
    · exact hP 10 _ rfl
    · exact hP 11 _ rfl
    · exact hP 12 _ rfl
    · exact hP 13 _ rfl
    · exact hP 14 _ rfl
    · exact hP 15 _ rfl
    · exact hP 16 _ rfl
    · exact hP 17 _ rfl
    · exact hP 18 _ rfl
    · exact hP 19 _ rfl
    · exact hP 20 _ rfl
    · exact hP 21 _ rfl
    · exact hP 22 _ rfl
    · exact hP 23 _ rfl
    · exact hP 24 _ rfl
    · exact hP 25 _ rfl
    · exact hP 26 _ rfl
  · obtain ⟨hk, -⟩ := wM_ad hq
    rw [wM_at hk] at hq
    cases hq
    refine ⟨hk, ?_⟩
    rcases (show k = 0 ∨ k = 1 ∨ k = 2 ∨ k = 3 ∨ k = 4 ∨ k = 5 ∨ k = 6 ∨ k = 7 ∨ k = 8 ∨ k = 9 ∨ k = 10 ∨ k = 11 ∨ k = 12 ∨ k = 13 ∨ k = 14 ∨ k = 15 ∨ k = 16 ∨ k = 17 ∨ k = 18 ∨ k = 19 ∨ k = 20 ∨ k = 21 ∨ k = 22 ∨ k = 23 ∨ k = 24 ∨ k = 25 ∨ k = 26 by omega) with rfl | rfl | rfl | rfl | rfl | rfl | rfl | rfl | rfl | rfl | rfl | rfl | rfl | rfl | rfl | rfl | rfl | rfl | rfl | rfl | rfl | rfl | rfl | rfl | rfl | rfl | rfl <;> exact ⟨_, rfl⟩
theorem R_0 {f g : Nat → Int32} (hf : ∀ x, x < 20 → f x = -1) (hg : ∀ x, x < 480 → g x = -1) : RRR (sg0 f g) ta0 := by
  refine ⟨0, 0, 0, 0, ⟨by omega, rfl, rfl⟩, ⟨by omega, rfl, rfl⟩, ⟨by omega, rfl, rfl⟩, ⟨by omega, rfl, rfl⟩, fun c _ => ⟨0, by omega, rfl, rfl⟩, fun j _ => ⟨0, 0, by omega, by omega, rfl, rfl, rfl⟩, ⟨fun _ => rfl, fun h => absurd rfl h⟩, ?_, rfl, rfl, ?_, ?_, ⟨rfl, fun i h => absurd h (Nat.not_lt_zero _)⟩, fun i _ => ⟨0, by omega, rfl, rfl⟩, ?_, ?_⟩
  · exact ⟨fun _ => 0, fun _ => 0, fun c _ => ⟨rfl, rfl⟩, fun i _ => rfl, by rw [nsum_zero (fun _ _ => rfl), nsum_zero (fun _ _ => rfl)]; exact Nat.le_refl _⟩
  · intro i hi
    rw [sg0_ne (show 15 + i ≠ 4 by omega) (show 15 + i ≠ 6 by omega)]
    exact ⟨rfl, rfl, rfl, Or.inl rfl, fun h => absurd h (Nat.not_lt_zero _), fun _ => ⟨rfl, rfl⟩⟩
  · show (0 : Int32) = isum (fun _ => 0) 4
    decide
  · refine ⟨?_, fun k hk => Or.inl ⟨rfl, hf k hk⟩, fun c w hc h1 h4 => ⟨fun k hk h => absurd h (show ¬ (0 : Int32) = 1 by decide), fun _ => hg (c * 5 + w) (by omega)⟩, fun k k' x y hk hk' hx hy h => absurd h (show ¬ (0 : Int32) = 1 by decide)⟩
    show (0 : Int32) = isum (fun _ => 0) 20
    decide
  · intro i hi
    rw [sg0_ne (show 31 + i ≠ 4 by omega) (show 31 + i ≠ 6 by omega), sg0_ne (show 39 + i ≠ 4 by omega) (show 39 + i ≠ 6 by omega)]
    exact ⟨fun h => absurd h (Nat.not_lt_zero _), fun _ c _ => rfl⟩
